import java.nio.charset.StandardCharsets;

/** The example of README.md, so that it stays true: the same calls with the answers told there. */
public final class ExampleTest {
    private static final Check CHECK = new Check();

    public static void main(String[] args) {
        ProgramRuns x = new ProgramRuns();
        String program = "fun twice(a) { return 2 * a; } fun main() { var n = any(1, 9); n = twice(n); assert(n < 10); }";
        byte[] text = program.getBytes(StandardCharsets.ISO_8859_1);
        for (int at = 0; at < text.length; at += 20) {
            x.feed(four(text, at), four(text, at + 4), four(text, at + 8), four(text, at + 12), four(text, at + 16));
        }
        CHECK.due("end", x.end(text.length), 0);
        pointsAreAsTold(x);
        runsAreAsTold(x);
        faultAndWrongAreAsTold(x);
        CHECK.close();
    }

    private static int four(byte[] text, int at) {
        int four = 0;
        for (int i = at; i < at + 4; i++) {
            four = four << 8 | (i < text.length ? text[i] & 255 : 0);
        }
        return four;
    }

    private static void pointsAreAsTold(ProgramRuns x) {
        CHECK.due("points()", x.points(), 5);
        CHECK.due("point(1, 0)", x.point(1, 0), 4);
        CHECK.due("point(2, 1)", x.point(2, 1), 15);
        CHECK.due("point(1, 4)", x.point(1, 4), 3);
    }

    private static void runsAreAsTold(ProgramRuns x) {
        CHECK.due("input(7)", x.input(7), 1);
        CHECK.due("run(2)", x.run(2), 16);
        CHECK.due("ran(0)", x.ran(0), 2);
        CHECK.due("value(1)", x.value(1), 7);
        CHECK.due("run(100)", x.run(100), 8);
        CHECK.due("ran(0)", x.ran(0), 3);
        CHECK.due("ran(1)", x.ran(1), 4);
        CHECK.due("value(0)", x.value(0), 14);
        CHECK.due("drop()", x.drop(), 1);
        CHECK.due("run(100)", x.run(100), 0);
    }

    private static void faultAndWrongAreAsTold(ProgramRuns x) {
        CHECK.due("end of a fault", Check.end(x, "fun m(){x=;}"), 1);
        CHECK.due("told(1)", x.told(1), 10);
        CHECK.due("end of what is wrong", Check.end(x, "fun m(){x=1;}"), 2);
        CHECK.due("told(0)", x.told(0), 1);
        CHECK.due("told(1)", x.told(1), 8);
        CHECK.due("end(1)", x.end(1), ProgramRuns.NONE);
    }
}
