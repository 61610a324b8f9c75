import java.util.Random;

/**
 * Whatever the calls are, none throws. The numbers come from a fixed seed, so that each run of the
 * test makes the same calls.
 */
public final class AnyCallsTest {
    private static final String[] PIECES = {
        "fun ", "fun f(){", "fun f(a){return a;}", "fun m(){", "var x;", "var t[3];", "var ", "x", "t", "f", "a",
        "=", "1", "0", "2147483647", "any", "any(1,2)", "any(-1,", "(", ")", "{", "}", "[", "]", ",", ";", "+", "-",
        "*", "/", "%", "<", "<=", "==", "&&", "||", "!", "if(x<1){", "}else{", "while(x<3){", "assert(x==0);",
        "x=x+1;", "t[x]=x;", "x=f(x);", "f();", "f(1);", "return x;", "return ", "//", "\n", " ", "@", "\u00ff", "\0",
    };
    private static final int[] EDGES = {
        0, 1, 2, 3, 4, 5, 11, 12, 20, 63, 64, 249, 250, 400, 2000, 2001, 8000, -1, -2,
        Integer.MAX_VALUE, Integer.MIN_VALUE, Integer.MIN_VALUE + 1,
    };

    public static void main(String[] args) {
        Check check = new Check();
        Random random = new Random(20261115);
        for (int object = 0; object < 3000; object++) {
            ProgramRuns x = new ProgramRuns();
            int calls = 0;
            boolean thrown = false;
            // What is asked at a time is at most 200 calls, and 512 are promised.
            while (calls < 312 && !thrown) {
                try {
                    calls += callSomething(x, random);
                } catch (RuntimeException | StackOverflowError e) {
                    System.out.println(e);
                    thrown = true;
                }
            }
            check.due("throws on object " + object, thrown ? 1 : 0, 0);
            check.due("too many calls of object " + object, calls > 512 ? calls : 0, 0);
        }
        check.close();
    }

    /** How many calls it made. */
    private static int callSomething(ProgramRuns x, Random random) {
        int a = EDGES[random.nextInt(EDGES.length)];
        int b = EDGES[random.nextInt(EDGES.length)];
        switch (random.nextInt(12)) {
            case 0:
                x.feed(random.nextInt(), a, b, random.nextInt(), a ^ b);
                break;
            case 1:
                x.end(a);
                break;
            case 2:
                x.told(a);
                break;
            case 3:
                x.point(a, b);
                break;
            case 4:
                x.input(b);
                break;
            case 5:
                x.drop();
                break;
            case 6:
                x.run(a);
                break;
            case 7:
                x.ran(a);
                break;
            case 8:
                x.value(a);
                break;
            case 9:
                x.place(a, b);
                break;
            default:
                return endAndAsk(x, random);
        }
        return 1;
    }

    private static int endAndAsk(ProgramRuns x, Random random) {
        StringBuilder text = new StringBuilder("fun f(a){return a;}fun m(){var x;var t[4];");
        for (int pieces = random.nextInt(8); pieces > 0; pieces--) {
            text.append(PIECES[random.nextInt(PIECES.length)]);
        }
        Check.end(x, text.append(random.nextInt(4) > 0 ? "}" : "").toString());
        x.run(2000);
        int points = x.points();
        for (int p = -1; p <= points; p++) {
            for (int what = -1; what <= 5; what++) {
                x.point(p, what);
            }
        }
        return text.length() / 20 + 4 + 7 * (points + 2);
    }
}
