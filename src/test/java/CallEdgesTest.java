import java.nio.charset.StandardCharsets;

/** Promises 1 to 10, at their edges: what is refused, what stays, and what each answers then. */
public final class CallEdgesTest {
    private static final int LEAST = Integer.MIN_VALUE;
    private static final int GREATEST = Integer.MAX_VALUE;
    private static final int SPACES = 0x20202020;
    private static final String PROGRAM = "fun f(a){return a;}fun m(){var x=any;var t[2];t[1]=x;x=f(x+1);assert(x==0);}";
    private static final Check CHECK = new Check();

    public static void main(String[] args) {
        noTextAtAll();
        theHighestByteFirst();
        eightThousandBytes();
        refusedFeedsChangeNothing();
        atTheFarEndOfTheBytes();
        theFirstBytesAreTheText();
        allBytesAreGone();
        refusedEndsChangeNothing();
        onlyTheEndWhenAmiss();
        inputsStay();
        nothingToTell();
        whatIsTold();
        pointsThatThereAreNot();
        whatOfAPoint();
        theEndOfAProgram();
        fourHundredInputs();
        inputsThatAreDropped();
        refusedRuns();
        runsFromTheBeginning();
        noRunSinceTheLatestEnd();
        whatOfARun();
        asManyCallsAsThereMayBe();
        CHECK.close();
    }

    private static void answers(String name, int due, int... got) {
        for (int i = 0; i < got.length; i++) {
            CHECK.due(name + ", answer " + i, got[i], due);
        }
    }

    private static ProgramRuns fed(String text) {
        ProgramRuns x = new ProgramRuns();
        Check.feed(x, text.getBytes(StandardCharsets.ISO_8859_1));
        return x;
    }

    /** Promise 1: "No text: a program that has only the end; no inputs." */
    private static void noTextAtAll() {
        onlyTheEnd("new", new ProgramRuns());
        ProgramRuns x = new ProgramRuns();
        answers("new: nothing was told", -1, x.told(0), x.told(1), x.told(2), x.told(-1));
        answers("new: no inputs", 0, x.drop(), x.drop());
        CHECK.due("new: the first input", x.input(5), 1);
        answers("new: no run", 0, x.ran(0), x.ran(1), x.ran(2), x.value(0), x.place(0, 0));
        answers("new: no bytes", -1, x.end(1), x.end(20), x.end(-1));
        CHECK.due("new: a text of no bytes", x.end(0), 1);
        answers("new: its fault is the end", 0, x.told(0), x.told(1));
        CHECK.due("new: the first bytes", new ProgramRuns().feed(0, 0, 0, 0, 0), 20);
    }

    private static void onlyTheEnd(String name, ProgramRuns x) {
        CHECK.due(name + ": points()", x.points(), 1);
        answers(name + ": the end", 0, x.point(0, 0), x.point(0, 1), x.point(0, 2), x.point(0, 3), x.point(0, 4));
        answers(name + ": no other point", -1, x.point(1, 0), x.point(-1, 0), x.point(0, 5), x.point(0, -1));
        for (int steps : new int[] {0, 1, 2000}) {
            answers(name + ": run(" + steps + ")", 0, x.run(steps), x.ran(0), x.ran(1), x.ran(2), x.value(0), x.place(0, 0));
        }
    }

    /** Promise 2: "Twenty bytes more, the highest byte of a first". */
    private static void theHighestByteFirst() {
        // "fun abcdefg(){}//\xff\x80\x00": one byte amiss, and the head or the remark is another one.
        int[] words = {0x66756e20, 0x61626364, 0x65666728, 0x297b7d2f, 0x2fff8000};
        for (int n = 0; n <= 20; n++) {
            ProgramRuns x = new ProgramRuns();
            CHECK.due("feed", x.feed(words[0], words[1], words[2], words[3], words[4]), 20);
            boolean whole = n >= 15 && n != 16;
            CHECK.due("end(" + n + ")", x.end(n), whole ? 0 : 1);
            int fault = n < 3 ? 0 : n == 16 ? 15 : n;
            CHECK.due("told(1) of " + n + " bytes", x.told(1), whole ? 0 : fault);
        }
        for (int i = 0; i < 20; i++) {
            // A byte that is no token, at each of the twenty places in turn.
            int[] one = {SPACES, SPACES, SPACES, SPACES, SPACES};
            one[i / 4] ^= 0xff << 8 * (3 - i % 4);
            ProgramRuns x = new ProgramRuns();
            x.feed(one[0], one[1], one[2], one[3], one[4]);
            CHECK.due("a text with byte " + i, x.end(20), 1);
            CHECK.due("its place " + i, x.told(1), i);
        }
    }

    /** Promise 2: "how many there are. NONE .. when there would be more than 8000." */
    private static void eightThousandBytes() {
        ProgramRuns x = new ProgramRuns();
        for (int i = 1; i <= 400; i++) {
            CHECK.due("feed " + i, x.feed(SPACES, SPACES, SPACES, SPACES, SPACES), 20 * i);
        }
        CHECK.due("feed 401", x.feed(SPACES, SPACES, SPACES, SPACES, SPACES), -1);
        CHECK.due("feed 402", x.feed(SPACES, SPACES, SPACES, SPACES, SPACES), -1);
        CHECK.due("end(8001)", x.end(8001), -1);
        CHECK.due("end(8020)", x.end(8020), -1);
        CHECK.due("end(8000)", x.end(8000), 1);
        CHECK.due("the place of the fault", x.told(1), 8000);
        CHECK.due("feed anew", x.feed(SPACES, SPACES, SPACES, SPACES, SPACES), 20);
    }

    private static void refusedFeedsChangeNothing() {
        String text = PROGRAM + "/".repeat(8000 - PROGRAM.length());
        ProgramRuns x = fed(text);
        for (int i = 0; i < 3; i++) {
            CHECK.due("a feed too many", x.feed(0, 0, 0, 0, 0), -1);
        }
        CHECK.due("8000 bytes", x.end(8000), 0);
        CHECK.due("their points", x.points(), 7);
    }

    private static void atTheFarEndOfTheBytes() {
        int before = 8000 - PROGRAM.length();
        CHECK.fault(" ".repeat(before) + "@#" + PROGRAM.substring(1));
        CHECK.fault(" ".repeat(before) + PROGRAM.substring(0, PROGRAM.length() - 1) + "@#");
        CHECK.fault(" ".repeat(before + 1) + PROGRAM.substring(0, PROGRAM.length() - 1) + "@");
        CHECK.wrong(1, "fun m(){" + " ".repeat(7986) + "@x=1; }");
        ProgramRuns x = CHECK.program(" ".repeat(before) + PROGRAM, -1);
        CHECK.due("place of the first statement", x.point(0, 1), before + PROGRAM.indexOf("var x"));
        CHECK.due("place of the last statement", x.point(5, 1), before + PROGRAM.indexOf("assert"));
        CHECK.due("its run", x.run(2000), 0);
    }

    /** Promise 3: "The first n bytes are a text". */
    private static void theFirstBytesAreTheText() {
        String two = "fun m(){}fun m(){var x;}";
        int[] whole = {9, 24};
        for (int n = 0; n <= 24; n++) {
            ProgramRuns x = fed(two);
            boolean isProgram = n == whole[0] || n == whole[1];
            CHECK.due("end(" + n + ") of two functions", x.end(n), isProgram ? 0 : 1);
            CHECK.due("points of " + n + " bytes", x.points(), n == 24 ? 2 : 1);
        }
        // What stands behind the text is no part of its last token, nor of a remark.
        ProgramRuns number = fed("fun m(){var x=10;}");
        CHECK.due("a NUMBER cut in two", number.end(15), 1);
        CHECK.due("its fault is the end", number.told(1), 15);
        ProgramRuns name = fed("fun m(){any");
        CHECK.due("a WORD cut in two", name.end(10), 1);
        CHECK.due("it is a NAME, so the fault is the end", name.told(1), 10);
        ProgramRuns sign = fed("fun m(){x==1");
        CHECK.due("a SIGN cut in two", sign.end(10), 1);
        CHECK.due("it is another one, so the fault is the end", sign.told(1), 10);
        ProgramRuns longName = fed("fun " + "n".repeat(31) + "(){}");
        CHECK.due("a NAME cut to 30 bytes", longName.end(34), 1);
        CHECK.due("it is a token, so the fault is the end", longName.told(1), 34);
    }

    /** Promise 3: "all bytes are gone", those behind the text, too. */
    private static void allBytesAreGone() {
        String[] texts = {"fun m(){}", "fun m(){x=1;}", "fun m(){", ""};
        int[] due = {0, 2, 1, 1};
        for (int i = 0; i < texts.length; i++) {
            ProgramRuns x = fed(texts[i] + " ".repeat(40));
            CHECK.due("end of " + texts[i], x.end(texts[i].length()), due[i]);
            CHECK.due("no byte is left of " + texts[i], x.end(1), -1);
            CHECK.due("feed behind " + texts[i], x.feed(SPACES, SPACES, SPACES, SPACES, SPACES), 20);
            CHECK.due("not one more behind " + texts[i], x.end(21), -1);
            CHECK.due("twenty blanks behind " + texts[i], x.end(20), 1);
            CHECK.due("their fault behind " + texts[i], x.told(1), 20);
            CHECK.due("a text of no bytes behind " + texts[i], x.end(0), 1);
            CHECK.due("its fault behind " + texts[i], x.told(1), 0);
        }
    }

    /** Promise 3: "NONE, changing nothing, when n is not 0 .. the number of bytes." */
    private static void refusedEndsChangeNothing() {
        ProgramRuns x = new ProgramRuns();
        for (int n : new int[] {-1, 1, LEAST, GREATEST}) {
            CHECK.due("new: end(" + n + ")", x.end(n), -1);
        }
        answers("a refused end tells nothing", -1, x.told(0), x.told(1));
        x.input(6);
        x.input(7);
        CHECK.due("end of the program", Check.end(x, PROGRAM), 0);
        CHECK.due("run", x.run(4), 16);
        Check.feed(x, "fun m(){var x;y=1;}".getBytes(StandardCharsets.ISO_8859_1));
        for (int n : new int[] {-1, 21, 40, 8000, LEAST, GREATEST}) {
            CHECK.due("end(" + n + ")", x.end(n), -1);
            answers("what was told stays", 0, x.told(0), x.told(1));
            answers("the points stay", 7, x.points(), x.point(3, 4) + 2, x.point(5, 4) + 1);
            answers("where the run stands stays", 4, x.ran(0), x.ran(1));
            CHECK.due("its inputs stay", x.ran(2), 1);
            answers("its values stay", 6, x.value(0), x.place(0, 1), x.value(1) - 1);
        }
        CHECK.due("the bytes stay", x.end(19), 2);
        CHECK.due("what is wrong with them", x.told(0), 1);
        CHECK.due("where that is", x.told(1), 14);
        CHECK.due("end(-1) again", x.end(-1), -1);
        CHECK.due("what is wrong stays", x.told(0), 1);
        CHECK.due("where that is stays", x.told(1), 14);
        CHECK.due("the inputs stay", x.drop(), 2);
    }

    /** Promise 3: "(For 1 and 2 there is a program that has only the end.)" */
    private static void onlyTheEndWhenAmiss() {
        ProgramRuns x = new ProgramRuns();
        x.input(-1);
        for (String text : new String[] {"", "fun m(){var x;x=1;", "fun m(){var x;x=1;y=2;}", "fun m(a){}", "fun m(){var x=@;}"}) {
            CHECK.due("a program", Check.end(x, PROGRAM), 0);
            CHECK.due("its run", x.run(2000), 0);
            CHECK.due("its points", x.points(), 7);
            CHECK.due("amiss: " + text, Check.end(x, text) == 0 ? 0 : 1, 1);
            answers("no run since: " + text, 0, x.ran(0), x.ran(1), x.ran(2), x.value(0), x.place(0, 1));
            onlyTheEnd(text, x);
        }
        CHECK.due("inputs", x.drop(), 1);
    }

    /** Promise 3: "The inputs stay." */
    private static void inputsStay() {
        ProgramRuns x = new ProgramRuns();
        int count = 0;
        for (String text : new String[] {"fun m(){}", "fun m(){x=1;}", "fun m(", "fun m(){var x=any;var y=any;y=0;}"}) {
            count++;
            CHECK.due("input behind others", x.input(10 * count), count);
            Check.end(x, text);
        }
        CHECK.due("a run that takes them", x.run(2), 16);
        CHECK.due("the first one", x.value(0), 10);
        CHECK.due("the second one", x.value(1), 20);
        CHECK.due("all of them", x.drop(), 4);
    }

    /** Promise 4: "NONE when there was none, or what is none of these." */
    private static void nothingToTell() {
        int[] none = {-1, 2, 3, 12, 13, LEAST, GREATEST};
        ProgramRuns x = new ProgramRuns();
        for (int round = 0; round < 2; round++) {
            answers("no end() yet", -1, x.told(0), x.told(1));
            for (int what : none) {
                CHECK.due("no end() yet: told(" + what + ")", x.told(what), -1);
            }
            x.run(3);
            x.input(1);
            x.feed(0, 0, 0, 0, 0);
            x.end(21 + 20 * round);
        }
        for (String text : new String[] {"fun m(){}", "fun m(){", "fun m(){x=1;}"}) {
            Check.end(x, text);
            for (int what : none) {
                CHECK.due("told(" + what + ") of " + text, x.told(what), -1);
            }
        }
    }

    /** Promise 4: "what is wrong (1 to 13; else 0), 1 the place .. (else 0)", "Of the latest end()". */
    private static void whatIsTold() {
        ProgramRuns x = new ProgramRuns();
        String[] texts = {"fun m(){}", "", "fun m(){}", "x", "fun m(){x=1;}", "fun m(){", "fun m(a){}", "fun m(){}", "fun m(){return 1;}"};
        int[] ends = {0, 1, 0, 1, 2, 1, 2, 0, 2};
        int[] whats = {0, 0, 0, 0, 1, 0, 7, 0, 7};
        int[] places = {0, 0, 0, 0, 8, 8, 4, 0, 8};
        for (int i = 0; i < texts.length; i++) {
            CHECK.due("end of text " + i, Check.end(x, texts[i]), ends[i]);
            x.run(5);
            CHECK.due("told(0) of text " + i, x.told(0), whats[i]);
            CHECK.due("told(1) of text " + i, x.told(1), places[i]);
        }
    }

    /** Promise 6: "NONE when there is no such point". */
    private static void pointsThatThereAreNot() {
        for (int count = 0; count <= 3; count++) {
            ProgramRuns x = CHECK.program("fun m(){" + "if(1<2){}".repeat(count) + "}");
            CHECK.due("points()", x.points(), count + 1);
            for (int what = -1; what <= 5; what++) {
                boolean known = what >= 0 && what <= 4;
                CHECK.due("the last point, " + what, x.point(count, what) == -1 ? 0 : 1, known ? 1 : 0);
                for (int p : new int[] {-1, count + 1, count + 2, 249, 250, 251, LEAST, GREATEST}) {
                    CHECK.due("point(" + p + ", " + what + ")", x.point(p, what), -1);
                }
            }
        }
        ProgramRuns most = CHECK.program("fun m(){" + "if(1<2){}".repeat(249) + "}");
        CHECK.due("the most points", most.points(), 250);
        CHECK.due("the last statement", most.point(248, 0), 5);
        CHECK.due("the end", most.point(249, 0), 0);
        CHECK.due("no point", most.point(250, 0), -1);
        CHECK.due("where the last statement goes", most.point(248, 4), 249);
    }

    /** Promise 6: "or what is none of these". */
    private static void whatOfAPoint() {
        ProgramRuns x = CHECK.program(PROGRAM);
        int[] statements = {1, 1, 3, 4, 8, 7, 0};
        for (int p = 0; p < statements.length; p++) {
            CHECK.due("point(" + p + ", 0)", x.point(p, 0), statements[p]);
            for (int what : new int[] {-1, -2, 5, 6, LEAST, GREATEST}) {
                CHECK.due("point(" + p + ", " + what + ")", x.point(p, what), -1);
            }
        }
    }

    /** Promise 6: "(0 for the end)", "(.. of the end: it)". */
    private static void theEndOfAProgram() {
        ProgramRuns x = CHECK.program(PROGRAM);
        answers("the end", 0, x.point(6, 0), x.point(6, 1), x.point(6, 2), x.point(6, 3), x.point(6, 4) - 6);
        CHECK.due("the last statement", x.point(5, 4), 6);
    }

    /** Promise 7: "One more input: how many there are. NONE when there are 400." */
    private static void fourHundredInputs() {
        ProgramRuns x = CHECK.program("fun m(){var i;var x;while(i<401){x=any;i=i+1;}x=x;}");
        for (int i = 1; i <= 400; i++) {
            CHECK.due("input " + i, x.input(i == 1 ? LEAST : i), i);
        }
        answers("too many inputs", -1, x.input(0), x.input(1), x.input(-1), x.input(GREATEST), x.input(LEAST));
        CHECK.due("the first one: run", x.run(4), 16);
        CHECK.due("the first one", x.value(1), LEAST);
        CHECK.due("the last one: run", x.run(4 + 3 * 399), 16);
        CHECK.due("the last one", x.value(1), 400);
        CHECK.due("none behind it: run", x.run(4 + 3 * 400), 16);
        CHECK.due("none behind it", x.value(1), 0);
        CHECK.due("all taken", x.ran(2), 400);
        CHECK.due("all are still there", x.drop(), 400);
    }

    /** Promise 8: "There are no inputs: how many there were." */
    private static void inputsThatAreDropped() {
        ProgramRuns x = CHECK.program("fun m(){var x=any;x=x;}");
        CHECK.due("none", x.drop(), 0);
        x.input(3);
        x.input(4);
        CHECK.due("run with two", x.run(1), 16);
        CHECK.due("two", x.drop(), 2);
        CHECK.due("what was taken stays", x.ran(2), 1);
        CHECK.due("the value stays", x.value(0), 3);
        CHECK.due("none again", x.drop(), 0);
        CHECK.due("run with none", x.run(1), 16);
        CHECK.due("any is 0", x.value(0), 0);
        CHECK.due("none was taken", x.ran(2), 0);
        CHECK.due("one anew", x.input(9), 1);
        CHECK.due("run with one", x.run(1), 16);
        CHECK.due("it is the first one", x.value(0), 9);
        for (int i = 2; i <= 400; i++) {
            x.input(i);
        }
        CHECK.due("400 are dropped", x.drop(), 400);
        CHECK.due("400 may come again", x.input(1), 1);
    }

    /** Promise 9: "NONE, refused, when steps are not 0 .. 2000." */
    private static void refusedRuns() {
        ProgramRuns fresh = new ProgramRuns();
        answers("new: refused", -1, fresh.run(-1), fresh.run(2001), fresh.run(LEAST), fresh.run(GREATEST));
        answers("new: not refused", 0, fresh.run(0), fresh.run(2000));
        ProgramRuns x = CHECK.program(PROGRAM, 8);
        answers("no run yet: refused", -1, x.run(-1), x.run(2001));
        answers("no run yet", 0, x.ran(0), x.ran(1), x.ran(2), x.value(0));
        CHECK.due("run(4)", x.run(4), 16);
        for (int steps : new int[] {-1, -2, 2001, 2002, 4000, LEAST, GREATEST}) {
            CHECK.due("run(" + steps + ")", x.run(steps), -1);
            answers("the run before stays", 4, x.ran(0), x.ran(1));
            CHECK.due("the inputs taken stay", x.ran(2), 1);
            answers("the values stay", 8, x.value(0), x.place(0, 1), x.value(1) - 1);
        }
        CHECK.due("run(0)", x.run(0), 16);
        CHECK.due("run(2000)", x.run(2000), 8);
    }

    /** Promise 9: "from its beginning and the first input on". */
    private static void runsFromTheBeginning() {
        ProgramRuns x = CHECK.program("fun m(){var x=any;var t[2];x=x*10+any;t[1]=x;x=0;}", 1, 2, 3, 4);
        for (int round = 0; round < 3; round++) {
            CHECK.due("run(4)", x.run(4), 16);
            answers("the same each time", 12, x.value(0), x.place(0, 1));
            answers("its steps", 4, x.ran(0), x.ran(1), x.ran(2) + 2);
            CHECK.due("run(2)", x.run(2), 16);
            CHECK.due("the value of its beginning", x.value(0), 1);
            CHECK.due("the array begins anew", x.place(0, 1), 0);
            answers("fewer steps", 2, x.ran(0), x.ran(1), x.ran(2) + 1);
        }
        CHECK.due("run(0)", x.run(0), 16);
        answers("no step is done", 0, x.ran(0), x.ran(1), x.ran(2), x.value(0), x.place(0, 1));
    }

    /** Promise 10: "0 when there was none since the latest end()". */
    private static void noRunSinceTheLatestEnd() {
        ProgramRuns x = new ProgramRuns();
        x.input(5);
        for (String text : new String[] {PROGRAM, PROGRAM, "fun m(){var x;", "fun m(){y=1;}", "fun m(){}"}) {
            CHECK.due("a program", Check.end(x, PROGRAM), 0);
            answers("no run yet", 0, x.ran(0), x.ran(1), x.ran(2), x.value(0), x.value(1), x.place(0, 1));
            CHECK.due("a run", x.run(4), 16);
            answers("it stands", 4, x.ran(0), x.ran(1), x.value(0) - 1, x.place(0, 1) - 1, x.ran(2) + 3);
            Check.end(x, text);
            answers("none since: " + text, 0, x.ran(0), x.ran(1), x.ran(2), x.value(0), x.value(1), x.place(0, 1));
            answers("nor another: " + text, -1, x.ran(3), x.ran(-1));
        }
    }

    /** Promise 10: "NONE when what is none of these." */
    private static void whatOfARun() {
        ProgramRuns x = new ProgramRuns();
        int[] none = {-1, -2, 3, 4, LEAST, GREATEST};
        for (int what : none) {
            CHECK.due("new: ran(" + what + ")", x.ran(what), -1);
        }
        CHECK.due("end", Check.end(x, PROGRAM), 0);
        for (int steps : new int[] {0, 1, 6}) {
            x.run(steps);
            for (int what : none) {
                CHECK.due("ran(" + what + ")", x.ran(what), -1);
            }
        }
    }

    /** "An object is used for at most 512 calls": so the 512th answers as the first ones do. */
    private static void asManyCallsAsThereMayBe() {
        ProgramRuns x = new ProgramRuns();
        for (int round = 0; round < 56; round++) {
            String text = "fun m(){var x=" + (100 + round) + ";x=any;}";
            CHECK.due("round " + round + ": input", x.input(round), round + 1);
            CHECK.due("round " + round + ": end", Check.end(x, text), 0);
            CHECK.due("round " + round + ": run", x.run(1), 16);
            CHECK.due("round " + round + ": value", x.value(0), 100 + round);
            CHECK.due("round " + round + ": ran", x.ran(1), 1);
            CHECK.due("round " + round + ": points", x.points(), 3);
            CHECK.due("round " + round + ": told", x.told(0), 0);
        }
        // Each round has two feeds, so these are calls 505 to 512.
        answers("the last calls", 1, x.ran(0), x.ran(1), x.point(0, 0), x.point(1, 2), x.points() - 2, x.run(1) - 15, x.ran(0));
        CHECK.due("the 512th call", x.drop(), 56);
    }
}
