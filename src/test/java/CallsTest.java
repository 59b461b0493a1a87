import java.io.PrintWriter;
import java.io.StringWriter;
import java.util.ArrayList;
import java.util.HashMap;
import java.util.HashSet;
import java.util.List;
import java.util.Map;
import java.util.Set;
import java.util.TreeMap;
import java.util.TreeSet;
import java.util.regex.Matcher;
import java.util.regex.Pattern;
import java.util.spi.ToolProvider;

/** LANGUAGE.md 11: calls that are no recursion go at most eight deep; methods that call one another in a circle count as one. */
public final class CallsTest {
    private static final int DEEPEST = 8;
    private static final Pattern CLASS = Pattern.compile("^\\S.*class (\\S+) .*\\{$|^class (\\S+) \\{$");
    private static final Pattern METHOD = Pattern.compile("^  \\S.*?([\\w$]+)\\(.*\\).*;$");
    private static final Pattern CALL = Pattern.compile("// Method (?:([\\w$/]+)\\.)?(\\w+):");

    /** By method, as CLASS.NAME: the methods of the file that it calls. */
    private static final Map<String, Set<String>> CALLS = new TreeMap<>();
    private static final Map<String, Set<String>> REACHED = new HashMap<>();
    private static final Map<String, List<String>> CHAINS = new HashMap<>();

    private CallsTest() {
    }

    private static String compiled() {
        List<String> words = new ArrayList<>(List.of("-p", "-c", "-cp", System.getProperty("java.class.path"), "StoneCensus"));
        for (Class<?> c : StoneCensus.class.getDeclaredClasses()) {
            words.add(c.getName());
        }
        StringWriter text = new StringWriter();
        PrintWriter out = new PrintWriter(text);
        ToolProvider.findFirst("javap").orElseThrow().run(out, out, words.toArray(new String[0]));
        return text.toString();
    }

    private static void readCalls() {
        String owner = "";
        String method = "";
        for (String line : compiled().split("\\R")) {
            Matcher m = CLASS.matcher(line);
            if (m.find()) {
                owner = m.group(1) != null ? m.group(1) : m.group(2);
                continue;
            }
            m = METHOD.matcher(line);
            if (m.find()) {
                method = owner + "." + m.group(1);
                CALLS.putIfAbsent(method, new TreeSet<>());
                continue;
            }
            m = CALL.matcher(line);
            if (m.find()) {
                String called = m.group(1) == null ? owner : m.group(1);
                if (called.startsWith("StoneCensus")) {
                    CALLS.get(method).add(called + "." + m.group(2));
                }
            }
        }
    }

    private static Set<String> reachedFrom(String method) {
        Set<String> known = REACHED.get(method);
        if (known != null) {
            return known;
        }
        Set<String> reached = new HashSet<>();
        List<String> waiting = new ArrayList<>(CALLS.getOrDefault(method, Set.of()));
        while (!waiting.isEmpty()) {
            String next = waiting.remove(waiting.size() - 1);
            if (reached.add(next)) {
                waiting.addAll(CALLS.getOrDefault(next, Set.of()));
            }
        }
        REACHED.put(method, reached);
        return reached;
    }

    private static boolean inOneCircle(String one, String other) {
        return one.equals(other) || reachedFrom(one).contains(other) && reachedFrom(other).contains(one);
    }

    private static List<String> longestChain(String method) {
        List<String> known = CHAINS.get(method);
        if (known != null) {
            return known;
        }
        List<String> longest = List.of();
        for (String member : CALLS.keySet()) {
            if (inOneCircle(method, member)) {
                for (String called : CALLS.get(member)) {
                    if (!inOneCircle(method, called) && longestChain(called).size() > longest.size()) {
                        longest = longestChain(called);
                    }
                }
            }
        }
        List<String> chain = new ArrayList<>(List.of(method));
        chain.addAll(longest);
        CHAINS.put(method, chain);
        return chain;
    }

    public static void main(String[] args) {
        readCalls();
        int wrong = 0;
        int deepest = 0;
        for (String method : CALLS.keySet()) {
            List<String> chain = longestChain(method);
            deepest = Math.max(deepest, chain.size());
            if (chain.size() > DEEPEST) {
                wrong++;
                System.out.println("too deep: " + chain);
            }
        }
        System.out.println(CALLS.size() + " methods, calls at most " + deepest + " deep");
        if (wrong != 0 || CALLS.size() < 100 || deepest < 5) {
            System.exit(1);
        }
    }
}
