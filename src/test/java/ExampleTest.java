import java.io.IOException;
import java.nio.charset.StandardCharsets;
import java.nio.file.Files;
import java.nio.file.Path;
import java.util.ArrayList;
import java.util.List;

/** The example of README.md stands below, and answers what it says there; run from the project's directory. */
public final class ExampleTest {
    public static void main(String[] args) throws IOException {
        Check check = new Check();
        check.theme("README.md");
        example(check);
        List<String> shown = between("README.md", "```java", "```");
        List<String> run = between("src/test/java/ExampleTest.java", "// The example begins.", "// The example ends.");
        check.same("the example", String.join("\n", run), String.join("\n", shown));
        check.is("it has lines", 1, shown.size() > 20 ? 1 : 0);
        check.end();
    }

    private static void example(Check check) {
        // The example begins.
        CampsiteBooker booker = new CampsiteBooker();
        int meadow = booker.addPitch(2, 8, 6, 0);          // kind, length, breadth, circuit
        booker.setRate(meadow, 25);
        int caravan = booker.book(1, 6, 5, 4, 10, 3);      // kind, length, breadth, power, first night, nights
        int price = booker.party(caravan, 7);              // 87: (25 + 4) * 3

        for (char c : "t3x4@13+2".toCharArray()) {
            booker.append(c);
        }
        int tent = booker.readBooking();                   // as book(0, 3, 4, 0, 13, 2)

        int corner = booker.addPitch(0, 4, 3, -1);         // -1: no circuit
        int mobile = booker.book(2, 8, 6, 16, 13, 3);      // only the meadow takes it: the tent makes room
        int moved = booker.moveOf(0, 0);                   // the tent
        int movedTo = booker.moveOf(0, 2);                 // the corner

        int reason = 0;
        try {
            booker.book(2, 8, 6, 0, 15, 2);
        } catch (UnsupportedOperationException refused) {
            reason = booker.refusal();                     // 2: another party is there
        }

        booker.advance(7);                                 // it is night 7
        int fee = booker.cancel(caravan);                  // 43: 3 nights ahead, half of the price
        booker.undo();                                     // the caravan is booked again
        // The example ends.
        check.is("price", 87, price);
        check.is("the tent's nights", 2, booker.party(tent, 5));
        check.is("moves", 1, booker.moves());
        check.is("who is moved", tent, moved);
        check.is("where to", corner, movedTo);
        check.is("the mobile home's pitch", meadow, booker.party(mobile, 6));
        check.is("reason", 2, reason);
        check.is("tonight", 7, booker.tonight());
        check.is("fee", 43, fee);
        check.is("the caravan is booked", 1, booker.party(caravan, 8));
    }

    /** The lines between the first two that are these, without the spaces ahead of them. */
    private static List<String> between(String file, String first, String last) throws IOException {
        List<String> lines = new ArrayList<>();
        boolean isInside = false;
        for (String line : Files.readAllLines(Path.of(file), StandardCharsets.UTF_8)) {
            if (isInside && line.strip().equals(last)) {
                return lines;
            }
            if (isInside) {
                lines.add(line.strip());
            }
            isInside = isInside || line.strip().equals(first);
        }
        return lines;
    }
}
