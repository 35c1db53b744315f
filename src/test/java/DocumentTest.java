import java.io.IOException;
import java.lang.reflect.Field;
import java.lang.reflect.Method;
import java.nio.file.DirectoryStream;
import java.nio.file.Files;
import java.nio.file.Path;
import java.util.ArrayList;
import java.util.List;
import java.util.regex.Matcher;
import java.util.regex.Pattern;

/**
 * What stands ahead of the promises and behind them: the face word by word, the order of its calls,
 * that 512 calls are answered as one is; and that no sentence of the promises is without a test.
 */
public final class DocumentTest {
    private static final Due due = new Due();
    private static final Path SOURCE = Path.of("src/main/java/SevenRounds.java");
    private static final Path TESTS = Path.of("src/test/java");
    private static final int CALLS = 512;

    private interface Call {
        long ask(SevenRounds x);
    }

    public static void main(String[] args) throws IOException, ReflectiveOperationException {
        Document document = Document.read();
        if (document != null) {
            constantsAsWritten(document);
            methodsAsWritten(document);
            eachPromiseHasItsCall(document);
            callsStandInTheirGroups(document);
            eachSentenceIsQuoted(document);
        }
        lastCallIsAnsweredAsTheFirst();
        lastChangeIsAChange();
        due.end();
    }

    // ---- the face

    private static void constantsAsWritten(Document document) throws ReflectiveOperationException {
        due.is("constants in the document", document.constants().size(), 7);
        for (String constant : document.constants()) {
            String[] words = constant.split(" ");
            Field field = SevenRounds.class.getField(words[1]);
            due.holds(constant + " has its type", field.getType().toString().equals(words[0]));
            due.is(constant, field.getLong(null), Long.parseLong(words[3].replace("L", "")));
        }
    }

    private static void methodsAsWritten(Document document) throws IOException {
        String source = Files.readString(SOURCE);
        due.holds("the class is as written", source.contains("\npublic final class SevenRounds {\n"));
        due.holds("the constructor is as written", source.contains("\n    public SevenRounds() {\n"));
        due.is("methods in the document", document.methods().size(), 29);
        int last = source.indexOf("public SevenRounds()");
        for (String method : document.methods()) {
            int at = source.indexOf("\n    public " + method + " {\n");
            due.holds(method + " stands in its place", at > last);
            last = at;
        }
        int publics = source.split("\\bpublic\\b").length - 1;
        // the class, two rows of constants, the constructor
        due.is("publics in the source", publics, 4 + document.methods().size());
    }

    private static void eachPromiseHasItsCall(Document document) {
        due.holds("promise 1 is a new object", document.promise(1)[0].equals("SevenRounds()"));
        for (int number = 2; number <= 30; number++) {
            String method = document.methods().get(number - 2);
            String name = method.replaceAll("^\\w+ (\\w+)\\(.*", "$1");
            due.holds("promise " + number + " is headed " + name,
                    document.heading(number).equals("Promise " + number + ": " + name));
            due.holds("promise " + number + " is of " + method, document.promise(number)[0].equals(method));
        }
        due.holds("there is no promise 31", document.heading(31).isEmpty());
    }

    private static void callsStandInTheirGroups(Document document) throws IOException {
        String source = Files.readString(SOURCE);
        String said = Document.oneLine(document.text);
        Matcher group = Pattern.compile("Ahead of the calls (.*?) the interface says: (---- \\d .*?)\\.").matcher(said);
        List<String> calls = new ArrayList<>();
        int groups = 0;
        while (group.find()) {
            groups++;
            int from = source.indexOf("\n    // " + group.group(2) + "\n");
            int to = source.indexOf("\n    // ----", from + 1);
            due.holds("the source says " + group.group(2), from > 0 && to > from);
            for (String quoted : group.group(1).split(", ")) {
                String name = quoted.replace("`", "");
                calls.add(name);
                Matcher head = Pattern.compile("\n    public \\w+ " + name + "\\(").matcher(source);
                due.holds(name + " stands under " + group.group(2), head.find() && head.start() > from && head.start() < to);
            }
        }
        due.is("groups", groups, 4);
        List<String> names = new ArrayList<>();
        for (String method : document.methods()) {
            names.add(method.replaceAll("^\\w+ (\\w+)\\(.*", "$1"));
        }
        due.holds("the groups have all calls in their order", calls.equals(names));
    }

    // ---- each sentence has a test

    private static void eachSentenceIsQuoted(Document document) throws IOException {
        String said = Document.oneLine(document.text);
        int from = said.indexOf("## Terms");
        int to = said.indexOf("Ahead of the calls");
        due.holds("the document has its terms", from >= 0 && to > from);
        due.holds("tests quote the document", quotes().size() > 100);
        unquoted("terms", said.substring(from + "## Terms".length(), to));
        for (int number = 1; number <= 30; number++) {
            due.holds("promise " + number + " says something", !document.promise(number)[1].isEmpty());
            unquoted("promise " + number, document.promise(number)[1]);
        }
    }

    private static void unquoted(String where, String said) throws IOException {
        boolean[] quoted = new boolean[said.length()];
        for (String quote : quotes()) {
            for (int at = said.indexOf(quote); at >= 0; at = said.indexOf(quote, at + 1)) {
                java.util.Arrays.fill(quoted, at, at + quote.length(), true);
            }
        }
        StringBuilder left = new StringBuilder();
        for (int i = 0; i < said.length(); i++) {
            left.append(quoted[i] ? '\n' : said.charAt(i));
        }
        for (String piece : left.toString().split("\n+")) {
            // fences, the groups' numbers and what joins two quotes say nothing
            String words = piece.replace("```text", "").replace("```", "").replaceAll("=+ \\d", "");
            due.holds(where + ", a test for: " + piece, !words.matches(".*\\w.*"));
        }
    }

    private static List<String> quotes() throws IOException {
        List<String> quotes = new ArrayList<>();
        Pattern call = Pattern.compile("due\\.(?:says|promises)\\((?:\\d+, )?((?:\\s*\\+?\\s*\"[^\"]*\")+)\\);");
        try (DirectoryStream<Path> files = Files.newDirectoryStream(TESTS, "*Test.java")) {
            for (Path file : files) {
                Matcher found = call.matcher(Files.readString(file));
                while (found.find()) {
                    quotes.add(Document.oneLine(found.group(1).replaceAll("\"\\s*\\+\\s*\"", "").replace("\"", "")));
                }
            }
        }
        return quotes;
    }

    // ---- 512 calls

    /** Ten calls that make of any object one with a state of its own, and of image 0 a new object's. */
    private static SevenRounds tenCalls(SevenRounds x) {
        x.restore(0);
        x.wipe();
        x.part(5, 3, 7);
        x.thread(2, true);
        x.set(0, 4);
        x.set(1, 2);
        x.man(3, 0);
        x.seen(6, 1);
        x.say('!');
        x.say('n');
        return x;
    }

    private static SevenRounds fewCalls() {
        SevenRounds x = new SevenRounds();
        x.image(0);
        return tenCalls(x);
    }

    /** An object behind its 511th call, like that of few calls. */
    private static SevenRounds allButOneCalls() {
        SevenRounds x = new SevenRounds();
        int calls = 1;
        x.image(0);
        while (calls < CALLS - 1 - 10) {
            otherCall(x, calls);
            calls++;
        }
        return tenCalls(x);
    }

    private static void otherCall(SevenRounds x, int i) {
        switch (i % 16) {
            case 0: x.part(i % 12, i % 100, i % 10); break;
            case 1: x.thread(i % 12, i % 3 == 0); break;
            case 2: x.set(i % 3, i % 13); break;
            case 3: x.man(i % 8, i % 9); break;
            case 4: x.say(i % 5 == 0 ? 'x' : '.'); break;
            case 5: x.say('n'); break;
            case 6: x.done(); break;
            case 7: x.seen(i % 10, i % 3); break;
            case 8: x.day(i, i % 99 + 1, 0); break;
            case 9: x.horns(3, 1); break;
            case 10: x.watch(i, 1, 1); break;
            case 11: x.quiet(i % 256, 3, 1); break;
            case 12: x.restore(0); break;
            case 13: x.forget(); break;
            case 14: x.fell(0); break;
            default: x.wipe(); break;
        }
    }

    private static List<Call> calls() {
        List<Call> all = new ArrayList<>();
        all.addAll(List.of(x -> x.part(5, 9, 9), x -> x.thread(5, true), x -> x.set(0, 9), x -> x.man(3, 4), x -> x.say('.'),
                SevenRounds::wipe, SevenRounds::fault, x -> x.judge(0)));
        all.addAll(List.of(SevenRounds::done, x -> x.behind(5), x -> x.then(0), x -> x.fell(1), SevenRounds::down,
                x -> x.shout(3), x -> x.horns(2, 0), x -> x.weakest(3, 0), x -> x.watch(585, 1, 1)));
        all.addAll(List.of(x -> x.seen(4, 1), SevenRounds::forget, SevenRounds::tones, x -> x.next(0), x -> x.chain(0),
                x -> x.quiet(1, 1, 1), x -> x.water(3, 5, 0, 0), x -> x.lots(3, 3, 3, 1), x -> x.day(77, 99, 2)));
        all.addAll(List.of(x -> x.image(1), x -> x.restore(0), x -> x.told(15)));
        return all;
    }

    private static void lastCallIsAnsweredAsTheFirst() {
        due.is("each call of the face is asked", calls().size(), faceMethods());
        for (int i = 0; i < calls().size(); i++) {
            long want = calls().get(i).ask(fewCalls());
            due.is("call " + i + " of the face as the 512th", calls().get(i).ask(allButOneCalls()), want);
        }
    }

    private static int faceMethods() {
        int count = 0;
        for (Method method : SevenRounds.class.getDeclaredMethods()) {
            count += java.lang.reflect.Modifier.isPublic(method.getModifiers()) ? 1 : 0;
        }
        return count;
    }

    /** The 511th call changes something, the 512th tells it. */
    private static void lastChangeIsAChange() {
        SevenRounds x = new SevenRounds();
        for (int call = 1; call <= CALLS - 2; call++) {
            due.is("call " + call, x.set(0, call % 100), (call - 1) % 100);
        }
        due.is("call 511", x.part(11, 77, 7), 10);
        due.is("call 512", x.told(21), 77);
    }
}
