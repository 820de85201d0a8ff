import com.sun.management.ThreadMXBean;
import java.io.PrintWriter;
import java.io.StringWriter;
import java.lang.management.ManagementFactory;
import java.lang.reflect.Field;
import java.lang.reflect.Method;
import java.lang.reflect.Modifier;
import java.nio.file.Files;
import java.nio.file.Path;
import java.util.ArrayList;
import java.util.Arrays;
import java.util.List;
import java.util.Map;
import java.util.Set;
import java.util.TreeMap;
import java.util.TreeSet;
import java.util.regex.Matcher;
import java.util.regex.Pattern;
import java.util.spi.ToolProvider;

/** What of ../shared/LANGUAGE.md, and of the document's face, can be seen without reading the code. */
public class RulesTest {
    static final String[] FORBIDDEN = {"->", "::", "\\btry\\b", "\\bcatch\\b", "\\bfinally\\b",
        "\\bsynchronized\\b", "\\bassert\\b", "\\binstanceof\\b", "Exact\\b", "\\bSystem\\.(?!arraycopy)",
        "\" \\+", "\\+ \"", "\\bRandom\\b", "\\bnanoTime\\b", "^package ", "\\bstatic \\{"};
    static int wrong;

    public static void main(String[] args) throws Exception {
        Path main = Path.of(args.length > 0 ? args[0] : "src/main/java/OverlapMill.java");
        String source = Files.readString(main);
        checkFace(Files.readString(main.toAbsolutePath().resolve("../../../../../shared/DOC.md").normalize()));
        checkClasses();
        checkRoom();
        checkDepth();
        checkText(source.replaceAll("(?s)/\\*\\*.*?\\*/", "").replaceAll("//.*", ""));
        System.out.println(wrong + " rules broken");
        System.exit(wrong == 0 ? 0 : 1);
    }

    static void hold(boolean fine, String rule) {
        if (!fine) {
            wrong++;
            System.out.println(rule);
        }
    }

    /** Each method of the document's face is there with its parameters and exceptions, and no other. */
    static void checkFace(String document) {
        String face = document.substring(document.indexOf("```java"), document.indexOf("## Terms"));
        Set<String> due = new TreeSet<>();
        Matcher told = Pattern.compile("(?m)^    public (\\w+) (\\w+)\\((.*?)\\)(?: throws (.*?))?;").matcher(face);
        while (told.find()) {
            List<String> types = new ArrayList<>();
            for (String one : told.group(3).isEmpty() ? new String[0] : told.group(3).split(", ")) {
                types.add(one.split(" ")[0]);
            }
            String thrown = told.group(4) == null ? "" : told.group(4);
            due.add(told.group(1) + " " + told.group(2) + types + thrown);
        }
        Set<String> is = new TreeSet<>();
        for (Method method : OverlapMill.class.getDeclaredMethods()) {
            if (!Modifier.isPrivate(method.getModifiers())) {
                is.add(described(method));
            }
        }
        hold(due.size() == 49, "the document's face has " + due.size() + " methods");
        hold(due.equals(is), "face: due " + due + "\n is " + is);
        hold(OverlapMill.class.getDeclaredConstructors().length == 1, "one constructor");
        hold(Modifier.isFinal(OverlapMill.class.getModifiers()), "the class is final");
        for (Field field : OverlapMill.class.getDeclaredFields()) {
            boolean open = !Modifier.isPrivate(field.getModifiers());
            hold(!open || field.getName().equals("NONE"), "open field " + field.getName());
        }
    }

    static String described(Method method) {
        List<String> types = new ArrayList<>();
        for (Class<?> type : method.getParameterTypes()) {
            types.add(type.getSimpleName());
        }
        List<String> thrown = new ArrayList<>();
        for (Class<?> type : method.getExceptionTypes()) {
            thrown.add(type.getSimpleName());
        }
        return method.getReturnType().getSimpleName() + " " + method.getName() + types
                + String.join(", ", thrown);
    }

    static void checkClasses() {
        Set<String> open = new TreeSet<>();
        for (Method method : OverlapMill.class.getDeclaredMethods()) {
            if (Modifier.isPublic(method.getModifiers())) {
                open.add(method.getName());
            }
        }
        List<Class<?>> classes = new ArrayList<>(Arrays.asList(OverlapMill.class.getDeclaredClasses()));
        hold(classes.size() <= 11, "twelve classes at most");
        for (Class<?> one : classes) {
            hold(Modifier.isStatic(one.getModifiers()), one + " is static");
        }
        classes.add(OverlapMill.class);
        for (Class<?> one : classes) {
            int fields = 0;
            for (Field field : one.getDeclaredFields()) {
                boolean fixed = Modifier.isStatic(field.getModifiers());
                fields += fixed ? 0 : 1;
                hold(!fixed || Modifier.isFinal(field.getModifiers()), "static field " + field);
            }
            hold(fields <= 20, one + " has " + fields + " fields");
            for (Method method : one.getDeclaredMethods()) {
                boolean own = !Modifier.isPublic(method.getModifiers());
                hold(!own || !open.contains(method.getName()), "named as a public one: " + method);
                hold(method.getParameterCount() <= 7, "parameters: " + method);
            }
        }
    }

    /** An object takes little room, and no call that answers takes any more (rule 12). */
    static void checkRoom() {
        ThreadMXBean thread = (ThreadMXBean) ManagementFactory.getThreadMXBean();
        useAll(new OverlapMill());
        long before = thread.getCurrentThreadAllocatedBytes();
        OverlapMill mill = new OverlapMill();
        long made = thread.getCurrentThreadAllocatedBytes();
        useAll(mill);
        long used = thread.getCurrentThreadAllocatedBytes();
        hold(made - before < 40000, "an object takes " + (made - before) + " bytes");
        hold(used - made < 2000, "calls take " + (used - made) + " bytes");
    }

    static int useAll(OverlapMill x) {
        x.kind(2, 0, 4, 5);
        x.unit(0, 2);
        x.load(0, 0);
        x.reckon(2, 0, 0, 2, 2);
        x.reckon(0, 1, 0, 2, 1);
        x.store(2, 0, 0, 3);
        int sum = x.first(2, 5) + x.least() + x.quickest() + x.squeeze(9) + x.rate(true) + x.critical() + x.bestFold();
        sum += x.fold(3) + x.faster(2) + x.more(1) + x.without(1) + x.need(2, 3) + x.op(1, 1) + x.uses(0);
        for (int d = x.count(2); d <= 12; d++) {
            sum += x.far(0, 2, d) + x.height(0, d) + x.bare(1, d, true) + x.moves(d) + x.quick(2, d);
        }
        for (int d = x.least(); d <= 12; d++) {
            sum += x.time(2, d) + x.ring(0, 0, d) + x.plan(d, 6) + x.life(1, d, 5) + x.alive(1, d);
            sum += x.flat(2, 30, d, 40) + x.cycles(d, 40, 3) + x.run(0, 5, d, 40) + x.comes(2, d, 40);
            sum += x.plain(0, 5, 40) + x.code(d, false) + x.peel(d, 40, true) + x.turning(d) + x.rotary(1, d, 9);
            sum += x.name(1, 0, 20, d, 40) + x.idle(0, d) + x.who(0, 1, d) + x.holes(d, 40) + x.late(d, 40, 2, 9);
            sum += x.pays(d) + (x.gate(1, 3, d, 40) ? 1 : 0) + (x.fits(d) ? 1 : 0);
        }
        return sum + x.drop() + x.count(5) + (x.isSound() ? 1 : 0);
    }

    /** Calls go at most eight deep, the library's with them; a method that calls itself counts once. */
    static void checkDepth() {
        Map<String, Set<String>> calls = callsOf(OverlapMill.class);
        for (Class<?> one : OverlapMill.class.getDeclaredClasses()) {
            calls.putAll(callsOf(one));
        }
        hold(calls.size() > 100, "calls are read from " + calls.size() + " methods");
        for (String method : calls.keySet()) {
            int depth = depthOf(calls, method, 0);
            hold(depth <= 8, method + " goes " + depth + " deep");
        }
    }

    static int depthOf(Map<String, Set<String>> calls, String method, int open) {
        int most = 0;
        if (open <= 40) {
            for (String called : calls.getOrDefault(method, Set.of())) {
                most = called.equals(method) ? most : Math.max(most, depthOf(calls, called, open + 1));
            }
        }
        return most + 1;
    }

    static Map<String, Set<String>> callsOf(Class<?> one) {
        StringWriter told = new StringWriter();
        PrintWriter out = new PrintWriter(told);
        ToolProvider.findFirst("javap").orElseThrow().run(out, out,
                "-c", "-p", "-cp", System.getProperty("java.class.path"), one.getName());
        Map<String, Set<String>> calls = new TreeMap<>();
        String method = "";
        for (String line : told.toString().split("\\R")) {
            Matcher head = Pattern.compile("  \\S.*?([\\w$]+)\\(.*;").matcher(line);
            Matcher call = Pattern.compile("// Method (?:([\\w$/]+)\\.)?\"?([\\w$<>]+)\"?:").matcher(line);
            if (head.matches()) {
                String name = head.group(1).equals(one.getName()) ? "<init>" : head.group(1);
                method = one.getName() + "." + name;
                calls.putIfAbsent(method, new TreeSet<>());
            } else if (call.find() && !method.isEmpty()) {
                String owner = call.group(1) == null ? one.getName() : call.group(1);
                calls.get(method).add(owner + "." + call.group(2));
            }
        }
        return calls;
    }

    static void checkText(String source) {
        for (String forbidden : FORBIDDEN) {
            hold(!Pattern.compile(forbidden, Pattern.MULTILINE).matcher(source).find(), "forbidden: " + forbidden);
        }
        Matcher imports = Pattern.compile("(?m)^import (.*);").matcher(source);
        while (imports.find()) {
            hold(imports.group(1).matches("java\\.util\\.(Arrays|NoSuchElementException)"),
                    "import " + imports.group(1));
        }
        String[] lines = source.split("\n");
        int begin = 0;
        for (int i = 0; i < lines.length; i++) {
            if (lines[i].matches(" {4,8}(private|public) .*\\) .*\\{") || lines[i].matches(" +throws .*\\{")) {
                begin = i;
            }
            if (lines[i].matches(" {4,8}\\}") && begin > 0) {
                hold(i - begin <= 60 || lines[i].startsWith("    }"), "a long method ends in line " + (i + 1));
            }
            for (int c = 0; c < lines[i].length(); c++) {
                hold(lines[i].charAt(c) < 128, "sign in line " + (i + 1));
            }
        }
    }
}
