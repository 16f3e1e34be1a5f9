import java.io.IOException;
import java.lang.reflect.Method;
import java.lang.reflect.Modifier;
import java.nio.file.Files;
import java.nio.file.Path;
import java.util.ArrayList;
import java.util.List;

/** README.md tells the truth: its example answers as it says, and it names every call. */
public final class ReadmeTest extends Check {
    private static final List<String> LINES = new ArrayList<>();
    private static int next = 0;

    public static void main(String[] args) throws IOException {
        String text = Files.readString(Path.of("README.md"));
        String fence = "```";
        int start = text.indexOf(fence + "java");
        due("README.md has an example", start >= 0, true);
        if (start >= 0) {
            takeCalls(text.substring(start, text.indexOf(fence, start + fence.length())));
            example();
        }
        namesEveryCall(text);
        finish();
    }

    private static void takeCalls(String example) {
        for (String line : example.split("\n")) {
            if (line.startsWith("desk.")) {
                LINES.add(line);
            }
        }
    }

    private static void example() {
        SigmaDesk desk = new SigmaDesk();
        told("desk.leaf(4, desk.power(4, 7));", desk.leaf(4, desk.power(4, 7)));
        told("desk.leaf(9, desk.power(9, 11));", desk.leaf(9, desk.power(9, 11)));
        told("desk.join(false);", desk.join(false));
        told("desk.accept();", desk.accept());
        told("desk.tell(1, 11);", desk.tell(1, 11));
        told("desk.commit(42);", desk.commit(42));
        told("desk.respond(1234);", desk.respond(1234));
        told("desk.verify();", desk.verify());
        told("desk.challenge();", desk.challenge());
        told("desk.save();", desk.save());
        told("desk.respond(77);", desk.respond(77));
        told("desk.extract();", desk.extract());
        told("desk.witness(1);", desk.witness(1));
        told("desk.witness(0);", desk.witness(0));
        told("desk.prove(5);", desk.prove(5));
        told("desk.simulate(17, 99);", desk.simulate(17, 99));
        told("desk.verify();", desk.verify());
        told("desk.respond(18);", desk.respond(18));
        due("calls in the example", next, LINES.size());
        due("power(4, 7)", desk.power(4, 7), 6377);
        due("power(9, 11)", desk.power(9, 11), 8239);
    }

    /** The next line of the example is this call, with this answer behind it. */
    private static void told(String call, Object answer) {
        String line = next < LINES.size() ? LINES.get(next) : "";
        next++;
        String got = line.replaceFirst(" *// *", " // ") + " ";
        boolean right = got.matches("\\Q" + call + " // " + answer + "\\E[^0-9a-z].*");
        due("README.md says '" + line + "', but " + call + " answers " + answer + ":", right, true);
    }

    private static void namesEveryCall(String text) {
        for (Method m : SigmaDesk.class.getDeclaredMethods()) {
            if (Modifier.isPublic(m.getModifiers())) {
                due("README.md names " + m.getName() + "()", text.contains("`" + m.getName() + "("), true);
            }
        }
    }
}
