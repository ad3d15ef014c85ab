import java.lang.reflect.InvocationTargetException;
import java.lang.reflect.Method;
import java.lang.reflect.Modifier;
import java.util.ArrayList;
import java.util.HashMap;
import java.util.List;
import java.util.Map;
import java.util.regex.Matcher;
import java.util.regex.Pattern;

/**
 * A run of calls on a new object, told by rows: "goes(0, 2) -> 8", "rings(3 .. 9) -> 0" (each of these minutes),
 * "tell w3;p0; -> 2" (typed letter by letter, then town()).
 * An answer is a number, NONE, or a refusal: BAD, STATE, FULL, NO, FAULT and its place.
 * Behind each refused call the object is compared with a twin that never got that call.
 */
final class Script {
    private static final int MOST_CALLS = 512;
    private static final String ARROW = " -> ";
    private static final Pattern RANGE = Pattern.compile("(-?\\d+) \\.\\. (-?\\d+)");
    private static final Pattern CALL = Pattern.compile("(\\w+)\\(([^()]*)\\)");
    private static final Map<String, Method> METHODS = new HashMap<>();

    static {
        for (Method method : AbsentBells.class.getDeclaredMethods()) {
            if (Modifier.isPublic(method.getModifiers())) {
                METHODS.put(method.getName(), method);
            }
        }
    }

    private record Call(String name, Method method, Object[] numbers) {
        long on(AbsentBells bells) {
            try {
                return ((Number) method.invoke(bells, numbers)).longValue();
            } catch (InvocationTargetException thrown) {
                throw new IllegalStateException(name + " threw", thrown.getCause());
            } catch (IllegalAccessException hidden) {
                throw new IllegalStateException(name + " can't be called", hidden);
            }
        }
    }

    /** A call and the answer that is due; without one any answer will do. */
    private record Step(Call call, Long want, boolean refused) { }

    /** What is looked at behind a refused call: a new pair of twins for each, for some looks change things. */
    private static final List<List<Call>> LOOKS = List.of(
        calls("count(0 .. 6)", "now(0 .. 5)", "person(0 .. 4, 0 .. 5)", "duty(0 .. 7, 0 .. 4)", "can(0 .. 4)", "trace()"),
        calls("rings(0 .. 239)"),
        calls("chord(0 .. 31, 0 .. 1)", "silence(1 .. 31)", "least(0 .. 4, 0 .. 1)"),
        calls("tells(0 .. 4, 0 .. 2, 1 .. 5)", "odds(0 .. 4, 20, 3, 0 .. 1)", "odds(0 .. 4, 100, 7, 0 .. 1)"),
        times(11, calls("undo()", "now(0 .. 1)", "now(5)", "person(0 .. 4, 1 .. 2)")),
        times(11, calls("undo()", "person(0 .. 4, 3)", "duty(0 .. 7, 0)")),
        calls("back(0)", "now(0 .. 5)", "person(0 .. 4, 0 .. 5)", "duty(0 .. 7, 0)", "duty(0 .. 7, 4)", "undo()"),
        calls("back(1)", "now(0 .. 5)", "person(0 .. 4, 0 .. 5)", "duty(0 .. 7, 0)", "duty(0 .. 7, 4)", "undo()"),
        calls("town()", "count(0 .. 6)", "person(0 .. 4, 5)", "duty(0 .. 7, 0 .. 4)", "type(59)", "town()", "clear()"),
        calls("rate(0 .. 5, 0 .. 7)", "trace()", "passes(1)", "now(5)"),
        calls("hears(0, 0 .. 6, 0)", "can(0)", "forget()", "can(0 .. 4)", "type(112)", "clear()", "undo()"));

    private Script() { }

    /** Runs the rows on a new object; the sentence is the one that the rows look at. */
    static void run(Due due, String sentence, String... rows) {
        List<Step> steps = steps(List.of(rows));
        due.is(sentence + ": calls beyond 512", Math.max(0, steps.size() - MOST_CALLS), 0);
        AbsentBells bells = new AbsentBells();
        for (int i = 0; i < steps.size(); i++) {
            Step step = steps.get(i);
            long got = step.call.on(bells);
            if (step.want != null) {
                due.is(sentence + ": " + step.call.name, got, step.want);
            }
            if (step.refused) {
                nothingChanges(due, sentence, steps.subList(0, i), List.of(step));
            }
        }
    }

    /** Runs rows on a new object, then refused rows, all of them together ahead of each look. */
    static void refused(Due due, String sentence, List<String> ahead, List<String> refused) {
        run(due, sentence, ahead.toArray(new String[0]));
        nothingChanges(due, sentence, steps(ahead), steps(refused));
    }

    private static void nothingChanges(Due due, String sentence, List<Step> ahead, List<Step> tried) {
        for (List<Call> look : LOOKS) {
            int left = MOST_CALLS - ahead.size() - tried.size();
            due.is(sentence + ": calls are left for a look", left >= Math.min(100, look.size()) ? 1 : 0, 1);
            AbsentBells plain = new AbsentBells();
            AbsentBells other = new AbsentBells();
            for (Step step : ahead) {
                step.call.on(plain);
                step.call.on(other);
            }
            for (Step step : tried) {
                due.is(sentence + ": " + step.call.name, step.call.on(other), step.want);
            }
            String behind = tried.size() == 1 ? tried.get(0).call.name : tried.get(0).call.name + " and others";
            for (Call call : look.subList(0, Math.max(0, Math.min(look.size(), left)))) {
                due.is(sentence + ": " + call.name + " behind the refused " + behind, call.on(other), call.on(plain));
            }
        }
    }

    private static List<Step> steps(List<String> rows) {
        List<Step> steps = new ArrayList<>();
        for (String row : rows) {
            steps.addAll(stepsOf(row));
        }
        return steps;
    }

    private static List<Step> stepsOf(String row) {
        int arrow = row.lastIndexOf(ARROW);
        String answer = arrow < 0 ? "" : row.substring(arrow + ARROW.length());
        String call = arrow < 0 ? row : row.substring(0, arrow);
        Long want = answer.isEmpty() ? null : Long.valueOf(number(answer));
        boolean refused = answer.matches("BAD|STATE|FULL|NO|FAULT .*");
        List<Step> steps = new ArrayList<>();
        if (call.startsWith("tell ")) {
            for (char letter : call.substring(5).toCharArray()) {
                steps.add(new Step(calls("type(" + (int) letter + ")").get(0), null, false));
            }
            call = "town()";
        }
        for (Call each : calls(call)) {
            steps.add(new Step(each, want, refused));
        }
        return steps;
    }

    private static long number(String answer) {
        if (answer.startsWith("FAULT ")) {
            return -10 - Long.parseLong(answer.substring(6));
        }
        switch (answer) {
            case "BAD": return -1;
            case "STATE": return -2;
            case "FULL": return -3;
            case "NONE": return -9;
            case "NO": return -1000000;
            default: return Long.parseLong(answer);
        }
    }

    /** The calls that texts tell; one with ranges in it tells many. */
    private static List<Call> calls(String... texts) {
        List<Call> calls = new ArrayList<>();
        for (String text : texts) {
            Matcher range = RANGE.matcher(text);
            if (range.find()) {
                for (int i = Integer.parseInt(range.group(1)); i <= Integer.parseInt(range.group(2)); i++) {
                    calls.addAll(calls(text.substring(0, range.start()) + i + text.substring(range.end())));
                }
            } else {
                calls.add(call(text));
            }
        }
        return calls;
    }

    private static Call call(String text) {
        Matcher matcher = CALL.matcher(text);
        if (!matcher.matches() || !METHODS.containsKey(matcher.group(1))) {
            throw new IllegalArgumentException("no call: " + text);
        }
        String[] parts = matcher.group(2).isEmpty() ? new String[0] : matcher.group(2).split(", ");
        Object[] numbers = new Object[parts.length];
        for (int i = 0; i < parts.length; i++) {
            numbers[i] = parts[i].equals("MIN") ? Integer.MIN_VALUE
                : parts[i].equals("MAX") ? Integer.MAX_VALUE : Integer.parseInt(parts[i]);
        }
        return new Call(text, METHODS.get(matcher.group(1)), numbers);
    }

    private static List<Call> times(int times, List<Call> calls) {
        List<Call> all = new ArrayList<>();
        for (int i = 0; i < times; i++) {
            all.addAll(calls);
        }
        return all;
    }
}
