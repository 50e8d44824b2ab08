import java.io.IOException;
import java.lang.reflect.Method;
import java.lang.reflect.Modifier;
import java.nio.file.Files;
import java.nio.file.Path;

/** What README.md tells of the class: its example, and every call of the face with its parameters. */
public final class ReadmeTest {
    public static void main(String[] args) throws IOException {
        String readme = Files.readString(Path.of("README.md"));
        theExampleHolds();
        everyCallIsTold(readme);
        Due.end();
    }

    private static void theExampleHolds() {
        Due.within("the example");
        TripleHouse house = new TripleHouse();
        Due.is("draft", house.draft(4, 10), 0);
        Due.yes("line", house.line(4, 3, 250));
        Due.is("propose", house.propose(4), 0);
        Due.is("ASKs that wait", house.letters(), 8);
        int delivered = 0;
        while (delivered < 100 && house.letters() > 0) {
            house.deliver(0);
            delivered++;
        }
        Due.is("ASK, GIVE, SETTLE, TAKEN of eight offices", delivered, 32);
        Due.is("decided", house.decided(4, 0), 0);
        Due.is("rate", house.rate(4, 3, 10, 1), 250);
        Due.is("spread", house.spread(4), 6);
    }

    private static void everyCallIsTold(String readme) {
        Due.within("the table of calls");
        for (Method m : TripleHouse.class.getDeclaredMethods()) {
            if (Modifier.isPublic(m.getModifiers())) {
                Due.is("parameters of " + m.getName(), parametersTold(readme, m.getName()), m.getParameterCount());
            }
        }
    }

    /** How many parameters the call's row in the table names; -1 without such a row. */
    private static int parametersTold(String readme, String call) {
        String head = "\n| `" + call + "(";
        int at = readme.indexOf(head);
        if (at < 0) {
            return -1;
        }
        int from = at + head.length();
        String inside = readme.substring(from, readme.indexOf(")", from));
        return inside.isEmpty() ? 0 : inside.split(",").length;
    }
}
