import java.io.IOException;
import java.lang.reflect.Method;
import java.lang.reflect.Modifier;
import java.nio.file.Files;
import java.nio.file.Path;
import java.util.ArrayList;
import java.util.List;
import java.util.TreeSet;
import java.util.regex.Matcher;
import java.util.regex.Pattern;

/** README.md tells the truth: its example answers as it says, its table names every call with its arguments. */
public final class ReadmeTest {
    private static final Check CHECK = new Check("ReadmeTest");
    private static final Path README = Path.of("README.md");

    public static void main(String[] args) throws IOException {
        String readme = Files.readString(README);
        example(readme);
        table(readme);
        refusals(readme);
        CHECK.finish();
    }

    /** The example's calls, each with the answer that stands behind it. */
    private static void example(String readme) {
        Matcher text = Pattern.compile("String text = \"([^\"]*)\";").matcher(readme);
        CHECK.due("the example has a text", text.find() ? 1 : 0, 1);
        BottomryLoans x = new BottomryLoans();
        Check.feed(x, text.group(1));
        List<String> told = new ArrayList<>();
        Matcher call = Pattern.compile("(?m)^x\\.(\\w+\\([^)]*\\)); +// (-?\\d+): ").matcher(readme);
        while (call.find()) {
            told.add(call.group(1) + " " + call.group(2));
        }
        List<String> due = List.of("voyage() " + x.voyage(), "borrow(0, 100, false) " + x.borrow(0, 100, false),
            "repair(2) " + x.repair(2), "comesHome() " + x.comesHome(), "rate() " + x.rate(), "paid(0) " + x.paid(0),
            "told(11) " + x.told(11), "sail(true) " + x.sail(true));
        CHECK.alike("the example", told.toString(), due.toString());
        CHECK.due("130 are due, it says: loan(0, 3)", x.loan(0, 3), 130);
    }

    private static void table(String readme) {
        TreeSet<String> told = new TreeSet<>();
        Matcher row = Pattern.compile("(?m)^\\| `(\\w+)\\(([^)]*)\\)` \\|").matcher(readme);
        while (row.find()) {
            int arguments = row.group(2).isEmpty() ? 0 : row.group(2).split(",").length;
            told.add(row.group(1) + " of " + arguments);
        }
        TreeSet<String> due = new TreeSet<>();
        for (Method method : BottomryLoans.class.getDeclaredMethods()) {
            if (Modifier.isPublic(method.getModifiers())) {
                due.add(method.getName() + " of " + method.getParameterCount());
            }
        }
        CHECK.due("how many calls there are", due.size(), 29);
        CHECK.alike("the calls", told.toString(), due.toString());
    }

    private static void refusals(String readme) {
        int at = 0;
        for (String name : new String[] {"`UNKNOWN`", "`OUTSIDE`", "`NOT`", "`FULL`"}) {
            int next = readme.indexOf(name, at);
            CHECK.due(name + " is told, in its order", next >= at ? 1 : 0, 1);
            at = Math.max(at, next);
        }
    }
}
