import java.util.HashSet;
import java.util.Set;

/**
 * A run of calls on a new object, told in lines. A line is a call with its numbers and, behind "=", the answer that is
 * due; without one any answer but an exception will do. A number is written as such, as MIN or MAX, the smallest and
 * the greatest int, or as a sign, whose own number it is then. "word" types a word. After a call that is to throw, all
 * that can be asked must be as before, and all that the object holds.
 */
final class Script {
    private static final Set<String> TITLES = new HashSet<>();
    private static int wrong = 0;
    private static int lines = 0;

    private final String title;
    private final MartialHall hall = new MartialHall();
    private int today = 0;

    private Script(String title) {
        this.title = title;
        due("a title of its own", TITLES.add(title), true);
    }

    static void run(String title, String... parts) {
        Script script = new Script(title);
        for (String part : parts) {
            for (String line : part.split("\n")) {
                if (!line.isBlank()) {
                    script.line(line.trim());
                }
            }
        }
    }

    /** Tells how it went, and ends the program. */
    static void end() {
        System.out.println(TITLES.size() + " scripts, " + lines + " lines, " + wrong + " wrong");
        System.exit(wrong == 0 ? 0 : 1);
    }

    private void line(String line) {
        lines++;
        String[] sides = line.split(" = ");
        String[] words = sides[0].split(" ");
        if (words[0].equals("word")) {
            for (char letter : words[1].toCharArray()) {
                answered(line, Caller.answer(hall, "type", letter));
            }
            return;
        }
        int[] args = new int[words.length - 1];
        for (int i = 0; i < args.length; i++) {
            args[i] = number(words[i + 1]);
        }
        if (sides.length == 2 && Caller.isException(sides[1])) {
            refused(line, sides[1], words[0], args);
            return;
        }
        String got = Caller.answer(hall, words[0], args);
        answered(line, got);
        if (sides.length == 2) {
            due(line, got, sides[1]);
        }
        if (words[0].equals("pass")) {
            today += args[0];
        }
    }

    private void refused(String line, String exception, String name, int[] args) {
        String asked = Caller.picture(hall, today);
        String held = Snapshot.of(hall);
        due(line, Caller.answer(hall, name, args), exception);
        due(line + " leaves what can be asked", Caller.picture(hall, today).equals(asked), true);
        due(line + " leaves what the object holds", Snapshot.of(hall).equals(held), true);
    }

    private void answered(String line, String got) {
        due(line + " answers " + got + ": an answer", got.matches("-?[0-9]+|true|false|done"), true);
    }

    private static int number(String text) {
        switch (text) {
            case "MIN": return Integer.MIN_VALUE;
            case "MAX": return Integer.MAX_VALUE;
            default: return text.matches("[^0-9]") ? text.charAt(0) : Integer.parseInt(text);
        }
    }

    private void due(String what, Object got, Object want) {
        if (!want.equals(got)) {
            wrong++;
            System.out.println(title + ": " + what + ": got " + got + ", due is " + want);
        }
    }
}
