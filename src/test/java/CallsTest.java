/** Promises 1 to 4, 7 and 8, and what each call refuses or leaves as it was. */
public final class CallsTest {
    private static final String TWO_STEPS = "fun m(){var x=any;x=x+1;}";
    private static final Check CHECK = new Check();

    public static void main(String[] args) {
        aNewObject();
        feeding();
        ending();
        endingAgain();
        bytesBehindTheText();
        textsOnOneObject();
        telling();
        inputs();
        refusedRuns();
        refusedQuestions();
        CHECK.close();
    }

    private static void aNewObject() {
        ProgramRuns x = new ProgramRuns();
        CHECK.due("new: points", x.points(), 1);
        int[] end = {0, 0, 0, 0, 0};
        for (int what = 0; what < end.length; what++) {
            CHECK.due("new: point(0, " + what + ")", x.point(0, what), end[what]);
        }
        CHECK.due("new: told(0)", x.told(0), -1);
        CHECK.due("new: told(1)", x.told(1), -1);
        CHECK.due("new: ran(0)", x.ran(0), 0);
        CHECK.due("new: ran(1)", x.ran(1), 0);
        CHECK.due("new: ran(2)", x.ran(2), 0);
        CHECK.due("new: value(0)", x.value(0), 0);
        CHECK.due("new: place(0, 0)", x.place(0, 0), 0);
        CHECK.due("new: run(0)", x.run(0), 0);
        CHECK.due("new: run(7)", x.run(7), 0);
        CHECK.due("new: ran(1) after it", x.ran(1), 0);
        CHECK.due("new: drop", x.drop(), 0);
        CHECK.due("new: end(1)", x.end(1), -1);
        CHECK.due("new: told(0) after a refused end", x.told(0), -1);
        CHECK.due("new: end(0)", x.end(0), 1);
        CHECK.due("new: told(0) of no bytes", x.told(0), 0);
        CHECK.due("new: told(1) of no bytes", x.told(1), 0);
    }

    private static void feeding() {
        ProgramRuns x = new ProgramRuns();
        // "fun f(){}", and bytes behind it that are no tokens.
        CHECK.due("feed", x.feed(0x66756e20, 0x6628297b, 0x7dffff80, 0x00010203, 0x04050607), 20);
        CHECK.due("the highest byte comes first", x.end(9), 0);
        CHECK.due("feed again", x.feed(0x66756e20, 0x6628297b, 0x7dffff80, 0x00010203, 0x04050607), 20);
        CHECK.due("a byte that is no token", x.end(10), 1);
        CHECK.due("its place", x.told(1), 9);
        for (int i = 1; i <= 400; i++) {
            CHECK.due("feed " + i, x.feed(0x20202020, 0x20202020, 0x20202020, 0x20202020, 0x20202020), 20 * i);
        }
        CHECK.due("feed beyond 8000", x.feed(1, 2, 3, 4, 5), -1);
        CHECK.due("feed beyond 8000 again", x.feed(1, 2, 3, 4, 5), -1);
        CHECK.due("end(8001)", x.end(8001), -1);
        CHECK.due("end(8000)", x.end(8000), 1);
        CHECK.due("the fault of blanks", x.told(1), 8000);
        CHECK.due("feed from none on", x.feed(1, 2, 3, 4, 5), 20);
    }

    private static void ending() {
        ProgramRuns x = new ProgramRuns();
        CHECK.due("two steps", Check.end(x, TWO_STEPS), 0);
        x.input(41);
        CHECK.due("run", x.run(1), 16);
        Check.feed(x, "fun m(){}".getBytes());
        CHECK.due("end(-1)", x.end(-1), -1);
        CHECK.due("end(21)", x.end(21), -1);
        CHECK.due("end(2^31 - 1)", x.end(Integer.MAX_VALUE), -1);
        CHECK.due("end(-2^31)", x.end(Integer.MIN_VALUE), -1);
        CHECK.due("the program stays", x.points(), 3);
        CHECK.due("the run stays", x.ran(1), 1);
        CHECK.due("its value stays", x.value(0), 41);
        CHECK.due("what was told stays", x.told(0), 0);
        CHECK.due("the bytes stay", x.end(9), 0);
        CHECK.due("points of the new one", x.points(), 1);
        CHECK.due("bytes are gone", x.end(1), -1);
        CHECK.due("no run since", x.ran(0), 0);
        CHECK.due("no steps since", x.ran(1), 0);
        CHECK.due("no inputs taken since", x.ran(2), 0);
        CHECK.due("no value since", x.value(0), 0);
        CHECK.due("inputs stay", x.drop(), 1);
    }

    private static void endingAgain() {
        ProgramRuns x = new ProgramRuns();
        x.input(5);
        Check.end(x, TWO_STEPS);
        CHECK.due("run(1)", x.run(1), 16);
        CHECK.due("value", x.value(0), 5);
        CHECK.due("the same again", Check.end(x, TWO_STEPS), 0);
        CHECK.due("value without a run", x.value(0), 0);
        CHECK.due("ran(0) without a run", x.ran(0), 0);
        CHECK.due("run(2)", x.run(2), 0);
        CHECK.due("with a fault", Check.end(x, "fun"), 1);
        CHECK.due("points with a fault", x.points(), 1);
        CHECK.due("ran(0) behind a fault", x.ran(0), 0);
        CHECK.due("run with a fault", x.run(9), 0);
        CHECK.due("steps with a fault", x.ran(1), 0);
        CHECK.due("and again", Check.end(x, TWO_STEPS), 0);
        CHECK.due("told(1) is 0 again", x.told(1), 0);
        CHECK.due("something wrong", Check.end(x, "fun m(){var x;y=1;}"), 2);
        CHECK.due("points with that", x.points(), 1);
        CHECK.due("statement of the end", x.point(0, 0), 0);
        CHECK.due("place of the end", x.point(0, 1), 0);
        CHECK.due("next of the end", x.point(0, 4), 0);
        CHECK.due("run with that", x.run(0), 0);
        CHECK.due("inputs stay", x.drop(), 1);
    }

    private static void bytesBehindTheText() {
        String[] texts = {"fun m(){}/", "fun m(){x=12", "fun m(){x=1", "fun m(){assert(1<", "fun m(){}f"};
        String[] behind = {"/ a remark", "a", "0", "=2);}", "un f(){}"};
        int[] faults = {9, 12, 11, 17, 9};
        for (int i = 0; i < texts.length; i++) {
            ProgramRuns x = new ProgramRuns();
            Check.feed(x, (texts[i] + behind[i]).getBytes());
            CHECK.due("end of " + texts[i], x.end(texts[i].length()), 1);
            CHECK.due("told(1) of " + texts[i], x.told(1), faults[i]);
        }
    }

    /** Nothing of an older text is left, wherever it went wrong. */
    private static void textsOnOneObject() {
        ProgramRuns x = new ProgramRuns();
        CHECK.due("a function", Check.end(x, "fun f(){}fun m(){f();}"), 0);
        CHECK.due("it is not meant any more", Check.end(x, "fun m(){f();}"), 2);
        CHECK.due("what is wrong", x.told(0), 4);
        String numbers = "var a;var b;var c;var d;var e;var f;";
        CHECK.due("wrong in the midst", Check.end(x, "fun f(a){if(1<2){" + numbers.substring(6) + "var t[2];x=1;}}fun m(){"
                + numbers + "var t[2];while(1<2){f(1);}}"), 2);
        CHECK.due("a NAME that means nothing", x.told(0), 1);
        CHECK.due("no variable of it is left", Check.end(x, "fun m(){var x=a;}"), 2);
        CHECK.due("so it means nothing", x.told(0), 1);
        CHECK.due("wrong again", Check.end(x, "fun f(a){if(1<2){" + numbers.substring(6) + "var t[2];x=1;}}fun m(){"
                + numbers + "var t[2];while(1<2){f(1);}}"), 2);
        CHECK.due("as many as there may be", Check.end(x, "fun m(){" + numbers + numbers.toUpperCase().replace("VAR", "var") + "}"), 0);
        CHECK.due("points", x.points(), 13);
        CHECK.due("numbers at the last var", x.point(11, 2), 11);
        CHECK.due("a fault in the midst", Check.end(x, "fun f(){}fun g(){if(1<2){x=f(1,"), 1);
        CHECK.due("a function meant no more", Check.end(x, "fun f(){f();}"), 2);
        CHECK.due("it is not meant in itself", x.told(0), 4);
        CHECK.due("wrong with more behind it", Check.end(x, "fun m(){if(1<2){while(1<2){x=1;var a;}var b;}var c;}"), 2);
        CHECK.due("numbers at all its points", Check.end(x, "fun m(){var a;var b;var c;}"), 0);
        CHECK.due("points of three vars", x.points(), 4);
        CHECK.due("the end where a var was", Check.end(x, "fun m(){var a;}"), 0);
        CHECK.due("points of one var", x.points(), 2);
        CHECK.due("numbers at the end", x.point(1, 2), 0);
        CHECK.due("an array", Check.end(x, "fun m(){var a[2];var b[3];a[0]=b[0];}"), 0);
        CHECK.due("a fault behind it", Check.end(x, "fun m(){"), 1);
        CHECK.due("arrays at the end", x.point(0, 3), 0);
        CHECK.due("a short one", Check.end(x, "fun m(){var x=5;assert(x==5&&!x<5);}"), 0);
        CHECK.due("its run", x.run(2), 0);
    }

    private static void telling() {
        ProgramRuns x = new ProgramRuns();
        Check.end(x, "fun m(){x=1;}");
        CHECK.due("told(0)", x.told(0), 1);
        CHECK.due("told(1)", x.told(1), 8);
        CHECK.due("told(2)", x.told(2), -1);
        CHECK.due("told(-1)", x.told(-1), -1);
        Check.end(x, "fun m(){x=;}");
        CHECK.due("told(0) of a fault", x.told(0), 0);
        CHECK.due("told(1) of a fault", x.told(1), 10);
    }

    private static void inputs() {
        ProgramRuns x = CHECK.program("fun m(){var x=any;var y=any;}");
        for (int i = 1; i <= 400; i++) {
            CHECK.due("input " + i, x.input(-i), i);
        }
        CHECK.due("input 401", x.input(9), -1);
        CHECK.due("input 401 again", x.input(9), -1);
        CHECK.due("run", x.run(1), 16);
        CHECK.due("the first one", x.value(0), -1);
        CHECK.due("drop", x.drop(), 400);
        CHECK.due("what was taken stays told", x.ran(2), 1);
        CHECK.due("the value stays", x.value(0), -1);
        CHECK.due("drop again", x.drop(), 0);
        CHECK.due("input from none on", x.input(3), 1);
        CHECK.due("run with one", x.run(2), 0);
        CHECK.due("taken", x.ran(2), 1);
    }

    private static void refusedRuns() {
        ProgramRuns x = CHECK.program(TWO_STEPS, 8);
        CHECK.due("run(1)", x.run(1), 16);
        CHECK.due("run(-1)", x.run(-1), -1);
        CHECK.due("run(2001)", x.run(2001), -1);
        CHECK.due("run(-2^31)", x.run(Integer.MIN_VALUE), -1);
        CHECK.due("run(2^31 - 1)", x.run(Integer.MAX_VALUE), -1);
        CHECK.due("the run before stays", x.ran(0), 1);
        CHECK.due("and its value", x.value(0), 8);
        CHECK.due("run(2000)", x.run(2000), 0);
    }

    private static void refusedQuestions() {
        ProgramRuns x = CHECK.program("fun m(){var x=7;var t[2];t[1]=9;x=8;}");
        int[] amiss = {-1, Integer.MIN_VALUE, Integer.MAX_VALUE};
        x.run(3);
        for (int no : amiss) {
            CHECK.due("point(" + no + ", 0)", x.point(no, 0), -1);
            CHECK.due("point(0, " + no + ")", x.point(0, no), -1);
            CHECK.due("ran(" + no + ")", x.ran(no), -1);
            CHECK.due("told(" + no + ")", x.told(no), -1);
            CHECK.due("value(" + no + ")", x.value(no), 0);
            CHECK.due("place(" + no + ", 1)", x.place(no, 1), 0);
            CHECK.due("place(0, " + no + ")", x.place(0, no), 0);
        }
        CHECK.due("point(0, 5)", x.point(0, 5), -1);
        CHECK.due("point(5, 0)", x.point(5, 0), -1);
        CHECK.due("point(4, 0)", x.point(4, 0), 0);
        CHECK.due("ran(3)", x.ran(3), -1);
        CHECK.due("value(0)", x.value(0), 7);
        CHECK.due("value(1)", x.value(1), 0);
        CHECK.due("place(0, 1)", x.place(0, 1), 9);
        CHECK.due("place(0, 2)", x.place(0, 2), 0);
        CHECK.due("place(1, 0)", x.place(1, 0), 0);
    }
}
