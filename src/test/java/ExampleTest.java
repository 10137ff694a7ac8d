import java.io.IOException;
import java.lang.reflect.Method;
import java.lang.reflect.Modifier;
import java.nio.file.Files;
import java.nio.file.Path;

/** The example of README.md: it answers what its comments say, and the page has just these lines. */
public final class ExampleTest {
    public static void main(String[] args) throws IOException {
        Checks.says("README.md");
        example();
        page(Files.readString(Path.of("README.md")), Files.readString(Path.of("src/test/java/ExampleTest.java")));
        Checks.end("examples");
    }

    private static void example() {
        CoatHangers x = new CoatHangers();
        int fault = Texts.read(x, "hanger wire 0 40; hanger oak 0 60; person ann 42 3; person bob 57 5;"
            + "hangs ann wire; hangs bob oak; bends = rank; costs = apart + beside * 10;");
        int cost = x.hanging(CoatHangers.NONE);   // what the hanging that costs least costs
        int night = x.nights(1);                  // a night goes by: which it is now
        int self = x.person(0, 3);                // as whom ann woke
        int crooked = x.person(0, 4);             // how crooked she is
        int again = x.themselves();               // behind how many nights all are their own
        boolean undone = x.undo();                // as if the night had not been
        Checks.due("fault", fault, 0);
        Checks.due("cost", cost, 2 + 3);
        Checks.due("night", night, 1);
        Checks.due("self", self, 1);
        Checks.due("crooked", crooked, 2);
        Checks.due("again", again, 1);
        Checks.yes("undone", undone);
        Checks.due("the night behind undo()", x.count(2), 0);
    }

    private static void page(String page, String source) {
        int from = page.indexOf("```java\n");
        int to = page.indexOf("```", from + 8);
        Checks.yes("the page has an example", from >= 0 && to > from);
        for (String line : page.substring(from + 8, to).split("\n")) {
            Checks.yes("the example's line " + line.strip(), source.contains(line.strip()));
        }
        for (Method call : CoatHangers.class.getDeclaredMethods()) {
            boolean isOfFace = Modifier.isPublic(call.getModifiers());
            if (isOfFace) Checks.yes("the page names " + call.getName(), page.contains("`" + call.getName() + "`"));
        }
    }
}
