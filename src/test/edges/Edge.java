import java.nio.file.Files;
import java.nio.file.Path;
import java.util.ArrayList;
import java.util.List;
import java.util.NoSuchElementException;
import java.util.TreeMap;
import java.util.regex.Matcher;
import java.util.regex.Pattern;

/**
 * Tests that quote the sentence they are of. A quote must stand in the document's section that it
 * names, and each sentence of a section must be quoted by some test: uncovered() tells those left.
 */
class Edge {
    static final Class<?> INDEX = IndexOutOfBoundsException.class;
    static final Class<?> ARGUMENT = IllegalArgumentException.class;
    static final Class<?> STATE = IllegalStateException.class;
    static final Class<?> ELEMENT = NoSuchElementException.class;
    static final int ADD = 0;
    static final int SUBTRACT = 1;
    static final int MULTIPLY = 2;
    static final int LEAST = 3;
    static final int LOAD = 4;
    static final int STORE = 5;
    static final int TURN = -1;
    static final int NUMBER = -2;
    static final int NONE = -1;
    static final int LOWEST = Integer.MIN_VALUE;
    static final int HIGHEST = Integer.MAX_VALUE;

    static final TreeMap<Integer, String> sections = new TreeMap<>();
    static final TreeMap<Integer, List<int[]>> quoted = new TreeMap<>();
    static String quote = "";
    static int place;
    static int tests;
    static int checks;
    static int wrong;

    protected Edge() {
    }

    interface Call {
        long answer();
    }

    interface Holds {
        boolean answer();
    }

    /** Section 0 is "Terms", 51 the end of "What it is", the others are the promises by their numbers. */
    static void read(Path document) throws Exception {
        String whole = Files.readString(document);
        put(51, whole.substring(whole.indexOf("An object is used"), whole.indexOf("\n## The public face")));
        put(0, whole.substring(whole.indexOf("\n## Terms"), whole.indexOf("\n## Promise 1:")));
        String[] parts = whole.substring(0, whole.indexOf("\n## Not promised")).split("\n## Promise ");
        for (int i = 1; i < parts.length; i++) {
            int number = Integer.parseInt(parts[i].substring(0, parts[i].indexOf(':')));
            put(number, parts[i].substring(parts[i].indexOf('\n')));
        }
    }

    static void put(int number, String text) {
        sections.put(number, text.replaceAll("## Terms|```text|```|====\\s*\\d\\.", " ").replaceAll("\\s+", " "));
        quoted.put(number, new ArrayList<>());
    }

    static void terms(String words, Runnable test) {
        sentence(0, words, test);
    }

    static void sentence(int number, String words, Runnable test) {
        quote = words;
        place = number;
        tests++;
        int at = sections.containsKey(number) ? sections.get(number).indexOf(words) : -1;
        int before = checks;
        if (at < 0) {
            tell("this does not stand in the document");
        } else {
            quoted.get(number).add(new int[] {at, at + words.length()});
        }
        try {
            test.run();
        } catch (RuntimeException e) {
            tell("threw " + e);
        }
        if (checks == before) {
            tell("has no check");
        }
    }

    static void tell(String what) {
        wrong++;
        int line = 0;
        for (StackTraceElement one : new Throwable().getStackTrace()) {
            if (!one.getClassName().startsWith("Edge") && !one.getClassName().startsWith("java")) {
                line = one.getLineNumber();
                break;
            }
        }
        String where = place == 0 ? "Terms" : place == 51 ? "What it is" : "promise " + place;
        System.out.println(where + ", line " + line + ", \"" + quote + "\": " + what);
    }

    static String answerOf(Call call) {
        try {
            return String.valueOf(call.answer());
        } catch (RuntimeException e) {
            return e.getClass().getSimpleName();
        }
    }

    static void due(long want, Call call) {
        compare(String.valueOf(want), answerOf(call));
    }

    static void holds(boolean want, Holds call) {
        due(want ? 1 : 0, () -> call.answer() ? 1 : 0);
    }

    /** The very class is asked for, not one below it, so that the machine's own do not pass. */
    static void fails(Class<?> want, Call call) {
        compare(want.getSimpleName(), answerOf(call));
    }

    static void refuses(Class<?> want, Runnable call) {
        fails(want, () -> did(call));
    }

    static void takes(Runnable call) {
        due(0, () -> did(call));
    }

    static long did(Runnable call) {
        call.run();
        return 0;
    }

    static void compare(String want, String got) {
        checks++;
        if (!want.equals(got)) {
            tell("answered " + got + ", due is " + want);
        }
    }

    /** All NEEDS of a loop, in their order. */
    static void needs(OverlapMill x, int[][] want) {
        due(want.length, () -> x.count(1));
        for (int i = 0; i < want.length; i++) {
            for (int what = 0; what < 4; what++) {
                int need = i;
                int which = what;
                due(want[i][what], () -> x.need(need, which));
            }
        }
        fails(INDEX, () -> x.need(want.length, 0));
    }

    /** TIMES of all OPS in the FIRST PLAN. */
    static void times(OverlapMill x, int d, int... want) {
        for (int i = 0; i < want.length; i++) {
            int op = i;
            due(want[i], () -> x.time(op, d));
        }
    }

    /** What QUICK comes to, and behind how many moves. */
    static void quickly(OverlapMill x, int d, int moves, int... want) {
        due(moves, () -> x.moves(d));
        for (int i = 0; i < want.length; i++) {
            int op = i;
            due(want[i], () -> x.quick(op, d));
        }
    }

    /** Clauses of all sections, words in brackets of "Terms" and told exceptions that no test quotes. */
    static void uncovered() {
        for (int number : sections.keySet()) {
            String text = sections.get(number);
            place = number;
            if (number == 0) {
                lookFor(Pattern.compile("[^.;]*[^.; ][^.;]*"), text, 0);
                lookFor(Pattern.compile("\\([^()]*\\)"), text, 0);
                continue;
            }
            int body = Math.max(0, text.indexOf("`: "));
            lookFor(Pattern.compile("[^.;]*[^.; ][^.;]*"), text, body);
            Matcher thrown = Pattern.compile("\\w+Exception").matcher(text);
            while (thrown.find() && thrown.start() < body) {
                if (text.indexOf(thrown.group(), body) < 0) {
                    look(number, thrown.start(), thrown.end());
                }
            }
        }
    }

    static void lookFor(Pattern pattern, String text, int from) {
        Matcher found = pattern.matcher(text);
        for (int at = from; at < text.length() && found.find(at); at = found.end()) {
            look(place, found.start(), found.end());
        }
    }

    static void look(int number, int start, int end) {
        for (int[] range : quoted.get(number)) {
            if (range[0] < end && range[1] > start) {
                return;
            }
        }
        quote = sections.get(number).substring(start, end).trim();
        tell("no test quotes this");
    }
}
