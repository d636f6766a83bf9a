import java.lang.reflect.InvocationTargetException;
import java.lang.reflect.Method;
import java.util.ArrayList;
import java.util.List;
import java.util.Map;
import java.util.TreeMap;
import java.util.function.Supplier;

/**
 * What the tests of edges share. A test is a sentence of the document and a script of calls on a
 * new object, parted by ", ". A step of a script is
 * <pre>
 *   name argument ..  = answer     a call (without "= answer" what it answers is free)
 *   make 003 127 ..                a THING for each: KIND, FIGURE, FARM
 *   letters t003;c0;               fed one by one
 *   tell t003;c0;  = answer        fed one by one, then valley()
 *   numbers 4 4 0                  told to the ROW
 *   times 96 step                  so often
 * </pre>
 * Numbers may be "least" and "greatest", those of an int.
 */
final class Edges {
    /** The document promises nothing of an object that was called more often. */
    private static final int MOST_CALLS = 512;
    private static final Map<String, Method> METHODS = new TreeMap<>();

    static {
        for (Method method : RivetedSisters.class.getDeclaredMethods()) {
            if (java.lang.reflect.Modifier.isPublic(method.getModifiers())) {
                METHODS.put(method.getName(), method);
            }
        }
    }

    private final String title;
    private String sentence = "";
    private int tests = 0;
    private int wrong = 0;

    Edges(String title) {
        this.title = title;
    }

    /** An object, and how often it was called. */
    static final class Subject {
        private final RivetedSisters x = new RivetedSisters();
        private int calls = 0;

        long call(String text) {
            String[] words = text.trim().split(" +");
            Object[] arguments = new Object[words.length - 1];
            for (int i = 0; i < arguments.length; i++) {
                arguments[i] = (int) number(words[i + 1]);
            }
            return call(words[0], arguments);
        }

        private long call(String name, Object[] arguments) {
            calls++;
            Method method = METHODS.get(name);
            if (method == null) {
                throw new IllegalArgumentException("no such call: " + name);
            }
            try {
                return ((Number) method.invoke(x, arguments)).longValue();
            } catch (InvocationTargetException thrown) {
                throw new IllegalStateException(name + " threw " + thrown.getCause());
            } catch (IllegalAccessException refused) {
                throw new IllegalStateException(refused);
            }
        }

        void feed(String letters) {
            for (char letter : letters.toCharArray()) {
                call("feed " + (int) letter);
            }
        }
    }

    static long number(String word) {
        switch (word) {
            case "least": return Integer.MIN_VALUE;
            case "greatest": return Integer.MAX_VALUE;
            default: return Long.parseLong(word);
        }
    }

    /** One test: what a sentence of the document says, on a new object. */
    void test(String sentence, String script) {
        test(sentence, script, MOST_CALLS);
    }

    /** A test of what no object comes to in so few calls as are promised. */
    void testFar(String sentence, String script) {
        test(sentence, script, Integer.MAX_VALUE);
    }

    private void test(String sentence, String script, int mostCalls) {
        this.sentence = sentence;
        tests++;
        Subject subject = new Subject();
        StringBuilder told = new StringBuilder();
        for (String step : script.split(", *")) {
            told.append(told.length() == 0 ? "" : ", ").append(step);
            play(subject, step, told);
        }
        must(subject.calls <= mostCalls, "the test calls " + subject.calls + " times");
    }

    private void play(Subject subject, String step, CharSequence told) {
        String[] sides = step.split("=");
        String doing = sides[0].trim();
        String rest = doing.substring(doing.indexOf(' ') + 1);
        long got = 0;
        switch (doing.split(" ")[0]) {
            case "make":
                for (String one : rest.split(" ")) {
                    long number = subject.call("thing " + String.join(" ", one.split("")));
                    must(number >= 0, "no THING came: " + told);
                }
                break;
            case "letters":
                subject.feed(rest);
                break;
            case "tell":
                subject.feed(doing.equals("tell") ? "" : rest);
                got = subject.call("valley");
                break;
            case "numbers":
                for (String one : rest.split(" ")) {
                    subject.call("row " + one);
                }
                break;
            case "times":
                int times = Integer.parseInt(rest.split(" ")[0]);
                for (int time = 0; time < times; time++) {
                    play(subject, step.substring(step.indexOf(rest) + rest.indexOf(' ') + 1), told);
                }
                return;
            default:
                got = subject.call(doing);
        }
        if (sides.length > 1) {
            long want = number(sides[1].trim());
            must(got == want, told + " -- answered " + got);
        }
    }

    void must(boolean so, String what) {
        if (!so) {
            wrong++;
            System.out.println("\"" + sentence + "\": " + what);
        }
    }

    /** A new object behind a script, for refused() and answered(). */
    Supplier<Subject> behind(String script) {
        return () -> {
            Subject subject = new Subject();
            for (String step : script.split(", *")) {
                play(subject, step, script);
            }
            return subject;
        };
    }

    /**
     * One test: the call answers the refusal, one more of these is counted, and all else that
     * calls can tell is as on a like object without the call.
     */
    void refused(String sentence, Supplier<Subject> maker, String call, int refusal) {
        this.sentence = sentence;
        tests++;
        long answer = call.startsWith("chance ") ? 4000000000000000000L - refusal : refusal;
        like(maker, call, answer, refusal);
    }

    /** One test: the call answers (what, is not looked at), is no refusal and changes nothing. */
    void answered(String sentence, Supplier<Subject> maker, String call) {
        this.sentence = sentence;
        tests++;
        Subject asked = maker.get();
        long answer = asked.call(call);
        boolean isRefusal = answer < 0 && answer != -9 || answer >= 4000000000000000000L;
        must(!isRefusal, call + " -- answered " + answer);
        like(maker, call, answer, 0);
    }

    private void like(Supplier<Subject> maker, String call, long answer, int refusal) {
        Subject asked = maker.get();
        Subject other = maker.get();
        long got = asked.call(call);
        must(got == answer, call + " -- answered " + got + ", due is " + answer);
        for (int number = 1; number <= 6; number++) {
            long more = asked.call("count " + (10 + number)) - other.call("count " + (10 + number));
            must(more == (number == -refusal ? 1 : 0),
                "behind " + call + " REFUSALS -" + number + " are " + more + " more");
        }
        List<String> askedTells = allThatItTells(asked);
        List<String> otherTells = allThatItTells(other);
        for (int i = 0; i < otherTells.size(); i++) {
            if (!askedTells.get(i).equals(otherTells.get(i))) {
                must(false, "behind " + call + " it tells " + askedTells.get(i)
                    + ", without it " + otherTells.get(i));
                break;
            }
        }
        must(asked.calls <= MOST_CALLS, "the test calls " + asked.calls + " times");
    }

    /** The state, what can be TAKEN BACK, the ROW, the letters, the image; it uses them up. */
    private static List<String> allThatItTells(Subject subject) {
        List<String> told = new ArrayList<>();
        tellState(subject, told);
        for (long left = subject.call("count 7"); left > 0; left--) {
            tell(subject, told, "back");
            tellState(subject, told);
        }
        tell(subject, told, "who 1");
        tell(subject, told, "who 2");
        tell(subject, told, "judge");
        tell(subject, told, "valley");
        tellState(subject, told);
        tell(subject, told, "restore");
        tellState(subject, told);
        return told;
    }

    private static void tellState(Subject subject, List<String> told) {
        for (int what = 0; what <= 7; what++) {
            tell(subject, told, "count " + what);
        }
        long things = subject.call("count 0");
        for (int thing = 0; thing < things; thing++) {
            for (int what : new int[] {0, 1, 2, 6}) {
                tell(subject, told, "thingOf " + thing + " " + what);
            }
        }
    }

    private static void tell(Subject subject, List<String> told, String call) {
        told.add(call + " = " + subject.call(call));
    }

    /** Says how it went; ends with exit code 1 if something was not as due. */
    void end() {
        System.out.println(wrong == 0 ? title + ": " + tests + " tests are as due"
            : title + ": " + wrong + " answers are not as due");
        if (wrong != 0) {
            System.exit(1);
        }
    }
}
