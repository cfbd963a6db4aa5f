import java.lang.reflect.InvocationTargetException;
import java.lang.reflect.Method;
import java.nio.file.Files;
import java.nio.file.Path;
import java.util.ArrayList;
import java.util.Arrays;
import java.util.Comparator;
import java.util.LinkedHashMap;
import java.util.List;
import java.util.Map;

/**
 * Runs the tests that bear words of the document. The words are looked up in DOC.md, so that none is held to
 * what the document does not say. With "left" as second argument it prints what no test quotes.
 */
public final class SentenceTest {
    private static final Class<?>[] GROUPS = {TextSentences.class, NetSentences.class, ClockSentences.class,
        PeriodSentences.class, ActSentences.class, ValueSentences.class, AskedSentences.class,
        SeenSentences.class, ChanceSentences.class, SlotSentences.class, ErrorSentences.class};
    private static final String[] COMMON = {"What it is", "Description", "Nodes, links, clocks", "State of a node",
        "A period", "The text", "Acts", "Errors"};

    private SentenceTest() {
    }

    public static void main(String[] args) throws Exception {
        String shared = System.getProperty("shared", "../shared");
        Map<String, String> sections = sections(Files.readAllLines(Path.of(shared, "DOC.md")));
        Map<String, String> left = new LinkedHashMap<>(sections);
        for (Class<?> group : GROUPS) {
            Method[] methods = group.getDeclaredMethods();
            Arrays.sort(methods, Comparator.comparing(Method::getName));
            for (Method m : methods) {
                Says says = m.getAnnotation(Says.class);
                if (says != null) {
                    run(m, says, sections);
                    left.computeIfPresent(says.in(), (in, text) -> without(text, says.value()));
                }
            }
        }
        Due.in("");
        everyPlaceIsTested(sections, left);
        if (args.length > 1 && args[1].equals("left")) {
            left.forEach((in, text) -> System.out.println("## " + in + "\n" + text + "\n"));
        }
        Due.end();
    }

    private static void run(Method m, Says says, Map<String, String> sections) throws Exception {
        Due.in("[" + says.in() + ": " + says.value() + "] " + m.getName() + ": ");
        String section = sections.get(says.in());
        Due.due("the document's words", section != null && section.contains(says.value()) ? 1 : 0, 1);
        int before = Due.asked();
        try {
            m.invoke(null);
        } catch (InvocationTargetException e) {
            e.getCause().printStackTrace(System.out);
            Due.due("throwing", 1, 0);
        }
        Due.due("calls whose answer is looked at", Due.asked() > before ? 1 : 0, 1);
    }

    private static void everyPlaceIsTested(Map<String, String> sections, Map<String, String> left) {
        List<String> places = new ArrayList<>(Arrays.asList(COMMON));
        for (int promise = 1; promise <= 26; promise++) {
            places.add("Promise " + promise);
        }
        for (String place : places) {
            boolean tested = sections.containsKey(place) && !sections.get(place).equals(left.get(place));
            Due.due("tests of \"" + place + "\"", tested ? 1 : 0, 1);
        }
    }

    /** The text under each heading, with single blanks between its words. */
    private static Map<String, String> sections(List<String> lines) {
        Map<String, String> sections = new LinkedHashMap<>();
        String in = "";
        for (String line : lines) {
            if (line.startsWith("#") || line.equals("Nodes, links, clocks")) {
                in = line.replaceAll("^#+ ", "").replaceAll("^(Promise \\d+):.*", "$1");
            } else {
                sections.merge(in, line, (a, b) -> (a + " " + b).replaceAll("\\s+", " "));
            }
        }
        return sections;
    }

    private static String without(String text, String words) {
        return text.replace(words, "[..]");
    }
}
