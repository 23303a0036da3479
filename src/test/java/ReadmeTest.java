import java.io.IOException;
import java.lang.reflect.Method;
import java.lang.reflect.Modifier;
import java.nio.file.Files;
import java.nio.file.Path;
import java.util.List;

/** The example of README.md answers what README.md says; run where README.md stands. */
public final class ReadmeTest {

    public static void main(String[] args) throws IOException {
        PumpRoster village = new PumpRoster();
        int house = village.addHouse(3, 2, 5);
        int pump = village.addPump(120, 10);
        int enrolled = village.enrol(pump, house);
        int buckets = village.pass(7);
        int eggs = village.house(house, 2);
        int thirst = village.foresee(30, 0);
        double daily = village.daily();

        told("int house = village.addHouse(3, 2, 5);", "" + house);
        told("int pump = village.addPump(120, 10);", "" + pump);
        told("int enrolled = village.enrol(pump, house);", "" + enrolled);
        told("int buckets = village.pass(7);", "" + buckets);
        told("int eggs = village.house(house, 2);", "" + eggs);
        told("int thirst = village.foresee(30, 0);", "" + thirst);
        told("double daily = village.daily();", "" + daily);
        everyCallStandsThere();
        Check.finish("ReadmeTest");
    }

    /** README.md has one line with this call, and says this answer behind it. */
    private static void told(String call, String answer) throws IOException {
        List<String> lines = Files.readAllLines(Path.of("README.md")).stream()
                .filter(line -> line.startsWith(call)).toList();
        Check.due("lines of README.md with " + call, lines.size(), 1);
        for (String line : lines) {
            String comment = line.substring(call.length()).trim();
            Check.dueText(call, answer, comment.replaceFirst("^// ([0-9.]+).*$", "$1"));
        }
    }

    private static void everyCallStandsThere() throws IOException {
        String readme = Files.readString(Path.of("README.md"));
        for (Method method : PumpRoster.class.getDeclaredMethods()) {
            if (Modifier.isPublic(method.getModifiers())) {
                Check.due("README.md tells of " + method.getName(),
                        readme.contains("| `" + method.getName() + "(") ? 1 : 0, 1);
            }
        }
    }
}
