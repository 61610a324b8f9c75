import java.nio.charset.StandardCharsets;

/** Counts answers that are not as due, and makes objects with texts for the tests. */
final class Check {
    private int wrong;
    private int checked;

    void due(String what, long got, long want) {
        checked++;
        if (got != want) {
            wrong++;
            System.out.println(what + " answered " + got + ", due is " + want);
        }
    }

    /** Prints what came of it, and ends the test with 1 if an answer was not as due. */
    void close() {
        System.out.println(checked + " answers, " + wrong + " not as due");
        if (wrong > 0 || checked == 0) {
            System.exit(1);
        }
    }

    static int feed(ProgramRuns x, byte[] bytes) {
        int fed = 0;
        for (int at = 0; at < bytes.length; at += 20) {
            fed = x.feed(four(bytes, at), four(bytes, at + 4), four(bytes, at + 8),
                    four(bytes, at + 12), four(bytes, at + 16));
        }
        return fed;
    }

    private static int four(byte[] bytes, int at) {
        int four = 0;
        for (int i = at; i < at + 4; i++) {
            four = four << 8 | (i < bytes.length ? bytes[i] & 255 : ' ');
        }
        return four;
    }

    static int end(ProgramRuns x, String text) {
        byte[] bytes = text.getBytes(StandardCharsets.ISO_8859_1);
        feed(x, bytes);
        return x.end(bytes.length);
    }

    /** An object with that program and those inputs. */
    ProgramRuns program(String text, int... inputs) {
        ProgramRuns x = new ProgramRuns();
        due("end of " + brief(text), end(x, text), 0);
        for (int input : inputs) {
            x.input(input);
        }
        return x;
    }

    /** The fault lies where the @ is, which is not part of the text. */
    void fault(String marked) {
        faultAt(marked.indexOf('@'), marked.replace("@", ""));
    }

    void faultAt(int place, String text) {
        amiss(1, 0, place, text);
    }

    /** That is wrong, where the @ is, which is not part of the text. */
    void wrong(int what, String marked) {
        amiss(2, what, marked.indexOf('@'), marked.replace("@", ""));
    }

    private void amiss(int answer, int what, int place, String text) {
        ProgramRuns x = new ProgramRuns();
        String name = brief(text);
        due("end of " + name, end(x, text), answer);
        due("told(0) of " + name, x.told(0), what);
        due("told(1) of " + name, x.told(1), place);
        due("points() of " + name, x.points(), 1);
    }

    /** It is a program, or something is wrong with it. */
    void noFault(String text) {
        due("a fault of " + brief(text), end(new ProgramRuns(), text) == 1 ? 1 : 0, 0);
    }

    void right(String text) {
        ProgramRuns x = program(text);
        due("told(0) of " + brief(text), x.told(0), 0);
        due("told(1) of " + brief(text), x.told(1), 0);
    }

    private static String brief(String text) {
        return text.length() <= 120 ? text : text.substring(0, 60) + " .. " + text.substring(text.length() - 60);
    }
}
