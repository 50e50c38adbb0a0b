import java.io.ByteArrayOutputStream;
import java.io.IOException;
import java.io.PrintStream;
import java.nio.charset.StandardCharsets;
import java.nio.file.Files;
import java.nio.file.Paths;
import java.util.ArrayList;
import java.util.List;

/** The example of README.md, line by line: it stands here as it stands there, and prints what its comments say. */
final class ReadmeTest {
    private static final String START = "        // The example starts.";
    private static final String END = "        // The example ends.";

    private ReadmeTest() {
    }

    private static void example() {
        // The example starts.
        Leasehall house = new Leasehall();
        int me = house.open(0, 0, 50);                              // person 0, at the server 0, patience 50
        int you = house.open(1, 2, 5);                              // person 1, at the server 2, patience 5

        // The node 0 is there at first. Make a node below it, named 7, with the value 42, and set its value.
        int lock = house.make(me, 0, 7, false, 42, Leasehall.PLAIN, 0);
        System.out.println(lock);                                   // 1: its number
        System.out.println(house.make(me, 0, 7, false, 42, Leasehall.PLAIN, 0));    // -4: EXISTS
        System.out.println(house.set(me, lock, 43, 0));             // 1: its version then
        System.out.println(house.set(me, lock, 44, 0));             // -3: BAD_VERSION
        System.out.println(house.changes());                        // 2: two changes were made

        // A session reads what its server has, and that one is behind.
        System.out.println(house.read(you, lock, 0));               // -1: NO_NODE
        System.out.println(house.follow(2, 1));                     // 1: it gets one change
        System.out.println(house.read(you, lock, 0));               // 42: the value behind that change
        System.out.println(house.watch(you, lock, Leasehall.VALUE));    // 1: so many watches
        System.out.println(house.sync(you));                        // 1: it gets the other change, too
        System.out.println(house.hear(you));                        // 11: of the node 1 is told SET
        System.out.println(house.hear(you));                        // -100: NONE, nothing more is told

        // Several acts as one change, or none.
        house.gather(me);
        System.out.println(house.check(me, lock, 1));               // -11: GATHERED
        System.out.println(house.set(me, lock, 45, Leasehall.ANY)); // -11: GATHERED
        System.out.println(house.done(me));                         // 3: the number of the last change
        System.out.println(house.answer(me, 1));                    // 2: what the act in the place 1 answered

        // A lock: a session has it, with a fence; then it sleeps for too long, and believes what is not so any more.
        System.out.println(house.want(you, lock, false));           // 2: the number of the child
        System.out.println(house.has(you, lock));                   // 4: its fence
        System.out.println(house.want(me, lock, false));            // 3: the number of the other child
        System.out.println(house.has(me, lock));                    // -100: NONE
        System.out.println(house.pass(5));                          // 5: the time, at which the session 1 lapses
        System.out.println(house.has(me, lock));                    // 5: its fence
        System.out.println(house.believers(lock));                  // 3: both, 1 + 2
        System.out.println(house.store(5, 100));                    // true: the store takes it
        System.out.println(house.store(4, 200));                    // false: that fence is too low
        System.out.println(house.stored());                         // 100: the number in the store

        // An answer that is lost, though the acts are done.
        house.lose(true);
        System.out.println(house.set(me, lock, 46, Leasehall.ANY)); // -9: LOST
        System.out.println(house.read(me, lock, 0));                // 46: it was set

        // The past, and back to a snapshot.
        System.out.println(house.valueAt(lock, 2));                 // 43: the value behind the change 2
        System.out.println(house.snapshot());                       // 3: so many nodes are kept
        System.out.println(house.compact(3));                       // 3: up to there all is compacted
        System.out.println(house.restore());                        // 8: the number of that change
        // The example ends.
    }

    private static List<String> between(String file, String start, String end, int indent) throws IOException {
        List<String> found = new ArrayList<>();
        boolean isWithin = false;
        for (String line : Files.readAllLines(Paths.get(file), StandardCharsets.UTF_8)) {
            if (isWithin && line.equals(end)) {
                return found;
            }
            if (isWithin) {
                found.add(line.substring(Math.min(indent, line.length())));
            }
            isWithin = isWithin || line.equals(start);
        }
        return found;
    }

    private static String[] printed() throws IOException {
        PrintStream screen = System.out;
        ByteArrayOutputStream told = new ByteArrayOutputStream();
        System.setOut(new PrintStream(told, true, "UTF-8"));
        try {
            example();
        } finally {
            System.setOut(screen);
        }
        return told.toString("UTF-8").split("\\R");
    }

    public static void main(String[] args) throws IOException {
        List<String> example = between("README.md", "```java", "```", 0);
        Check.is("the example here is that of README.md", true,
            example.equals(between("tests/ReadmeTest.java", START, END, START.indexOf('/'))));
        String[] printed = printed();
        int at = 0;
        for (String line : example) {
            if (line.contains("println")) {
                String got = at < printed.length ? printed[at] : "nothing";
                Check.is(line + " got " + got, true, line.matches(".* // " + got + "(:.*)?"));
                at++;
            }
        }
        Check.is("lines that are printed", at, printed.length);
        Check.end("the example of README.md");
    }
}
