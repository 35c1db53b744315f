import java.io.IOException;
import java.lang.reflect.Method;
import java.nio.file.DirectoryStream;
import java.nio.file.Files;
import java.nio.file.Path;
import java.util.ArrayList;
import java.util.List;
import java.util.Set;
import java.util.TreeSet;
import java.util.regex.Matcher;
import java.util.regex.Pattern;

/** What README.md says is so of the class and of the tests: its example answers, its tables are whole. */
public final class ReadmeTest {
    private static final Due due = new Due();
    private static final String[] REFUSALS = {"UNKNOWN", "OUTSIDE", "NO", "STATE", "FULL"};

    private static String page;

    public static void main(String[] args) throws IOException, ReflectiveOperationException {
        page = Files.readString(Path.of("README.md"));
        example();
        oneObject();
        callsOfTheFace();
        callsAndPromises();
        rowsOfTold();
        refusals();
        refusalsInOrder();
        tests();
        due.end();
    }

    // ---- the example

    private static void example() throws ReflectiveOperationException {
        Matcher block = Pattern.compile("(?s)```java\n(.*?)```").matcher(page);
        due.holds("there is an example", block.find());
        String[] lines = block.group(1).split("\n");
        due.holds("it makes an object", lines[0].equals("SevenRounds x = new SevenRounds();"));
        SevenRounds x = new SevenRounds();
        for (int i = 1; i < lines.length; i++) {
            Matcher row = Pattern.compile("x\\.(\\w+)\\((.*?)\\);\\s+// (-?\\d+|[A-Z]+)(: .*)?").matcher(lines[i]);
            boolean isCall = row.matches();
            due.holds("a call and its answer: " + lines[i], isCall);
            if (isCall) {
                due.is(lines[i], ask(x, row.group(1), row.group(2)), answer(row.group(3)));
            }
        }
    }

    private static long answer(String told) throws ReflectiveOperationException {
        return told.matches("[A-Z]+") ? SevenRounds.class.getField(told).getLong(null) : Long.parseLong(told);
    }

    private static long ask(SevenRounds x, String name, String told) throws ReflectiveOperationException {
        Method method = methodOf(name);
        String[] words = told.isEmpty() ? new String[0] : told.split(", ");
        Object[] numbers = new Object[words.length];
        for (int i = 0; i < words.length; i++) {
            if (words[i].matches("true|false")) {
                numbers[i] = words[i].equals("true");
            } else {
                numbers[i] = words[i].startsWith("'") ? words[i].charAt(1) : Integer.parseInt(words[i]);
            }
        }
        return ((Number) method.invoke(x, numbers)).longValue();
    }

    private static Method methodOf(String name) {
        for (Method method : SevenRounds.class.getMethods()) {
            if (method.getName().equals(name) && method.getDeclaringClass() == SevenRounds.class) {
                return method;
            }
        }
        throw new IllegalArgumentException("no such call: " + name);
    }

    private static void oneObject() {
        String said = Document.oneLine(page);
        due.holds("512 calls", said.contains("An object is used for at most 512 calls after it has been made"));
        SevenRounds x = new SevenRounds();
        for (int part = 0; part < 12; part++) {
            due.is("10 firm", x.told(10 + part), 10);
            due.is("of tone 0", x.told(30 + part), 0);
        }
        for (int man = 0; man < 8; man++) {
            due.is("8 others", x.told(50 + man), 8);
        }
        for (int what = 0; what <= 5; what++) {
            due.is("nothing at first: " + what, x.told(what), 0);
        }
        due.is("no image", x.restore(0), SevenRounds.STATE);
        due.is("no image", x.restore(1), SevenRounds.STATE);
    }

    // ---- the tables of calls

    /** The rows whose first column is a call: the call, what it answers, its refusals. */
    private static List<String[]> rows() {
        List<String[]> rows = new ArrayList<>();
        Matcher row = Pattern.compile("(?m)^\\| `(\\w+\\([^`]*\\))` \\| (.*) \\| (.*?)\\s*\\|$").matcher(page);
        while (row.find()) {
            rows.add(new String[] {row.group(1), row.group(2), row.group(3)});
        }
        return rows;
    }

    private static void callsOfTheFace() {
        Set<String> names = new TreeSet<>();
        for (String[] row : rows()) {
            String name = row[0].substring(0, row[0].indexOf('('));
            String numbers = row[0].substring(name.length() + 1, row[0].length() - 1);
            names.add(name);
            int count = numbers.isEmpty() ? 0 : numbers.split(", ").length;
            due.is("numbers of " + row[0], methodOf(name).getParameterCount(), count);
        }
        Set<String> face = new TreeSet<>();
        for (Method method : SevenRounds.class.getMethods()) {
            if (method.getDeclaringClass() == SevenRounds.class) {
                face.add(method.getName());
            }
        }
        due.holds("the page has all calls: " + face + " and not " + names, face.equals(names));
        due.is("each of them once", rows().size(), face.size());
    }

    /** The calls stand in the document's order, by its names, with the refusals that it promises. */
    private static void callsAndPromises() throws IOException {
        Document document = Document.read();
        if (document == null) {
            return;
        }
        for (int i = 0; i < rows().size(); i++) {
            String[] row = rows().get(i);
            String method = document.methods().get(i);
            String want = method.replaceFirst("^\\w+ ", "").replaceAll("(int|boolean) (\\w+)([,)])", "$2$3");
            due.holds("the page says " + want + ", not " + row[0], row[0].equals(want));
            String promised = document.promise(i + 2)[1];
            for (String refusal : REFUSALS) {
                due.holds(refusal + " of " + row[0], has(row[2], refusal) == has(promised, refusal));
            }
            due.holds("NONE of " + row[0], has(row[1], "NONE") == has(promised, "NONE"));
        }
    }

    private static boolean has(String text, String word) {
        return Pattern.compile("\\b" + word + "\\b").matcher(text).find();
    }

    /** The numbers that told is said to answer are those it answers. */
    private static void rowsOfTold() {
        Set<Integer> said = new TreeSet<>();
        for (String[] row : rows()) {
            Matcher one = Pattern.compile("(?:^|, )(\\d+)(?: to (\\d+))? ").matcher(row[1]);
            while (row[0].equals("told(what)") && one.find()) {
                int least = Integer.parseInt(one.group(1));
                int most = one.group(2) == null ? least : Integer.parseInt(one.group(2));
                for (int what = least; what <= most; what++) {
                    said.add(what);
                }
            }
        }
        for (int what = -10; what <= 100; what++) {
            boolean is = new SevenRounds().told(what) != SevenRounds.OUTSIDE;
            due.holds("told(" + what + ")", is == said.contains(what));
        }
    }

    // ---- refusals

    private static List<String[]> refusalRows() {
        List<String[]> rows = new ArrayList<>();
        Matcher row = Pattern.compile("(?m)^\\| `([A-Z]+)` \\| (-\\d+) \\| (.*) \\|$").matcher(page);
        while (row.find()) {
            rows.add(new String[] {row.group(1), row.group(2)});
        }
        return rows;
    }

    private static void refusals() throws ReflectiveOperationException {
        for (String[] row : refusalRows()) {
            due.is(row[0], SevenRounds.class.getField(row[0]).getLong(null), Long.parseLong(row[1]));
        }
        due.holds("NONE", page.contains("`NONE` (" + SevenRounds.NONE + ")"));
        due.holds("LOST", Document.oneLine(page).contains("`LOST` (" + SevenRounds.LOST + ")"));
        due.is("LOST + OUTSIDE", new SevenRounds().water(10, 0, 0, 0), SevenRounds.LOST + SevenRounds.OUTSIDE);
    }

    private static void refusalsInOrder() {
        due.is("refusals", refusalRows().size(), REFUSALS.length);
        for (int i = 0; i < refusalRows().size() && i < REFUSALS.length; i++) {
            due.holds("refusal " + i + " is " + REFUSALS[i], refusalRows().get(i)[0].equals(REFUSALS[i]));
        }
    }

    // ---- tests

    private static void tests() throws IOException {
        Set<String> said = new TreeSet<>();
        Matcher row = Pattern.compile("(?m)^\\| `(\\w+Test)` \\| .* \\|$").matcher(page);
        while (row.find()) {
            due.holds("once: " + row.group(1), said.add(row.group(1)));
        }
        Set<String> is = new TreeSet<>();
        try (DirectoryStream<Path> files = Files.newDirectoryStream(Path.of("src/test/java"), "*Test.java")) {
            for (Path file : files) {
                is.add(file.getFileName().toString().replace(".java", ""));
            }
        }
        due.holds("the tests are " + is + " and not " + said, is.equals(said));
        due.holds("it says how to run them", page.contains("\n    .ci/run\n"));
        due.holds(".ci/run can be run", Files.isExecutable(Path.of(".ci/run")));
    }
}
