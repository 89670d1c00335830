import java.lang.reflect.Method;
import java.util.ArrayList;
import java.util.Arrays;
import java.util.HashMap;
import java.util.List;
import java.util.Map;

/**
 * A run of calls on a new object, told as texts, each with the answer that is due.
 *
 * <pre>
 * pull 0 1 = 0          a call and its answer (numbers may be told as 0x..)
 * still pull 0 9 = -2   likewise, and all stays as it was ahead of it
 * keeps read fly = -32  likewise, but for fault(), which may be another one
 * read T = 3            the text T is fed and read by land()
 * tape T                the text T is fed, with bytes 0 up to the next twenty
 * row 0 1: 5 -1 7       row 0 is of sort 1 and has these numbers
 * times 9 live 99       nine calls, whatever they answer
 * </pre>
 */
final class Calls {
    /** What is written to find out how many bits a number has. */
    private static final long WIDE = 0x1234_5678_9abc_def0L;
    private static final Map<String, Method> METHODS = new HashMap<>();

    static int wrong = 0;
    static int calls = 0;
    /** The test that is run. */
    static String name = "";

    static {
        for (Method m : TwoWells.class.getDeclaredMethods()) {
            METHODS.put(m.getName(), m);
        }
    }

    private final TwoWells x = new TwoWells();
    private final List<String> done = new ArrayList<>();

    private Calls() {
    }

    /** A run on a new object that has read a land, if the text is not empty. */
    static void run(String text, String... steps) {
        Calls run = new Calls();
        if (!text.isEmpty()) {
            due(text, "is read", Math.min(run.step("read " + text), 0), 0);
        }
        for (String step : steps) {
            run.check(text, step);
        }
    }

    static void due(String text, String step, long got, long want) {
        calls++;
        if (got != want) {
            wrong++;
            System.out.println(name + ", " + text + ": " + step + " answered " + got + ", due is "
                    + want);
        }
    }

    private void check(String text, String step) {
        int equals = step.lastIndexOf(" = ");
        if (step.startsWith("row ") || step.startsWith("tape ") || step.startsWith("times ")) {
            due(text, step, step(step), 0);
            return;
        }
        String mark = step.startsWith("still ") || step.startsWith("keeps ") ? step.substring(0, 6) : "";
        String call = step.substring(mark.length(), equals);
        long want = Long.parseLong(step.substring(equals + 3));
        if (!mark.isEmpty()) {
            compareTwins(text, call, mark.equals("still "));
        }
        due(text, step, step(call), want);
    }

    /** One of two like objects does a call: both must then answer alike whatever is asked. */
    private void compareTwins(String text, String call, boolean faultToo) {
        for (int part = 0; part < 5; part++) {
            Calls one = again();
            Calls other = again();
            one.step(call);
            long[] got = one.look(part, faultToo);
            long[] want = other.look(part, faultToo);
            due(text, call + " changed something: " + Arrays.toString(got) + " for "
                    + Arrays.toString(want), Arrays.equals(got, want) ? 1 : 0, 1);
        }
    }

    private Calls again() {
        Calls run = new Calls();
        for (String step : done) {
            run.step(step);
        }
        return run;
    }

    /** Does a step: what the call answered (0 for steps of several calls). */
    private long step(String step) {
        done.add(step);
        if (step.startsWith("read ")) {
            return read(x, step.substring(5));
        }
        if (step.startsWith("tape ")) {
            feed(x, step.substring(5));
            return 0;
        }
        if (step.startsWith("row ")) {
            return tellRow(step);
        }
        if (step.startsWith("times ")) {
            String[] w = step.split(" ", 3);
            for (int i = 0; i < Integer.parseInt(w[1]); i++) {
                call(w[2]);
            }
            return 0;
        }
        return call(step);
    }

    private long call(String step) {
        String[] w = step.split(" ");
        Method m = METHODS.get(w[0]);
        if (m == null || m.getParameterCount() != w.length - 1) {
            throw new IllegalStateException(step);
        }
        Class<?>[] types = m.getParameterTypes();
        Object[] values = new Object[types.length];
        for (int i = 0; i < types.length; i++) {
            values[i] = types[i] == boolean.class ? (Object) Boolean.valueOf(w[i + 1])
                    : types[i] == long.class ? (Object) Long.valueOf(w[i + 1])
                    : (Object) number(w[i + 1]);
        }
        try {
            return ((Number) m.invoke(x, values)).longValue();
        } catch (ReflectiveOperationException e) {
            throw new IllegalStateException(step, e);
        }
    }

    private static int number(String text) {
        return text.startsWith("0x") ? Integer.parseUnsignedInt(text.substring(2), 16)
                : Integer.parseInt(text);
    }

    // These two stand in the README, too: ReadmeTest looks whether they are the same there.

    /** Feeds a text and reads it as a land: what land() answered. */
    static int read(TwoWells x, String text) {
        feed(x, text);
        return x.land(text.length());
    }

    /** Feeds a text, twenty bytes a call, with bytes 0 behind it up to the next twenty. */
    static void feed(TwoWells x, String text) {
        int[] v = new int[(text.length() + 19) / 20 * 5];
        for (int i = 0; i < text.length(); i++) {
            v[i / 4] |= text.charAt(i) << 24 - i % 4 * 8;
        }
        for (int k = 0; k < v.length; k += 5) {
            x.feed(v[k], v[k + 1], v[k + 2], v[k + 3], v[k + 4]);
        }
    }

    /** The first number that isn't there as it was told, or 0. */
    private long tellRow(String step) {
        String[] w = step.replace(":", "").split(" ");
        int row = Integer.parseInt(w[1]);
        long answer = x.numbers(row, Integer.parseInt(w[2]), w.length - 3);
        for (int i = 3; i < w.length && answer == 0; i++) {
            long v = Long.parseLong(w[i]);
            answer = x.write(row, i - 3, v) == v ? 0 : v;
        }
        return answer;
    }

    // ---- what can be seen of an object

    private long[] look(int part, boolean faultToo) {
        List<Long> all = new ArrayList<>();
        if (part == 1) {
            lookAtRows(all);
        } else {
            if (part == 2) {
                all.add((long) x.land(x.count(7)));
                lookAtFault(all);
            } else if (part > 2) {
                all.add((long) x.restore(part - 3));
            }
            lookAtLand(all);
        }
        if (faultToo) {
            lookAtFault(all);
        }
        long[] answers = new long[all.size()];
        for (int i = 0; i < answers.length; i++) {
            answers[i] = all.get(i);
        }
        return answers;
    }

    private void lookAtFault(List<Long> all) {
        all.add((long) x.fault(0));
        all.add((long) x.fault(1));
    }

    private void lookAtLand(List<Long> all) {
        for (int what = 0; what < 9; what++) {
            all.add((long) x.count(what));
        }
        for (int h = 0; h < x.count(0); h++) {
            for (int what = 0; what < 8; what++) {
                all.add((long) x.house(h, what));
            }
        }
        for (int r = 0; r < x.count(1); r++) {
            for (int what = 0; what < 10; what++) {
                all.add((long) x.rope(r, what));
            }
        }
    }

    private void lookAtRows(List<Long> all) {
        for (int row = 0; row < 4; row++) {
            for (int what = 0; what < 5; what++) {
                all.add((long) x.judge(row, what));
            }
            all.add((long) x.seen(row));
            all.add((long) x.pulled(row));
        }
        for (int row = 0; row < 4; row++) {
            long answer = 0;
            for (int i = 0; i < 61 && answer != -6 && answer != -7; i++) {
                answer = x.write(row, i, WIDE);
                all.add(answer);
            }
        }
    }
}
