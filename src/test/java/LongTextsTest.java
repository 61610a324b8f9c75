/** The longest texts: as many bytes, tokens, functions and statements as there can be. */
public final class LongTextsTest {
    private static final int MOST = 8000;
    private static final Check CHECK = new Check();

    public static void main(String[] args) {
        functions();
        functionOnlyBegun();
        statements();
        statementOnlyBegun();
        tokens();
        names();
        parameters();
        remark();
        twoOnOneObject();
        CHECK.close();
    }

    private static void functions() {
        String most = "fun f(){}".repeat(888);
        CHECK.right(most + " ".repeat(MOST - most.length()));
        CHECK.fault(most + "@f");
        CHECK.wrong(4, "fun f(){}".repeat(886) + "fun m(){@g();}");
    }

    /** Behind as many functions as there can be, one more can still be begun. */
    private static void functionOnlyBegun() {
        String most = "fun f(){}".repeat(888);
        String[] tails = {
            "@f", "@fu", "fun@", "fun @", "fun f@", "fun f(@", "fun f()@", "fun f(a@", "fun f(){@", "fun f(a)@",
            "fun f(@,", "fun f(@{", "fun f()@}", "fun f()@)", "fun f(a@{", "fun @(){", "fun@\u0000f(){", "@}", "@fun_f(){",
        };
        for (String tail : tails) {
            CHECK.fault(most + tail);
        }
        for (int functions = 880; functions <= 887; functions++) {
            String fewer = "fun f(){}".repeat(functions);
            CHECK.fault(fewer + "fun f(){@");
            CHECK.fault(fewer + "fun f()@;");
            CHECK.wrong(4, fewer + "fun m(){@g();}");
            CHECK.right(fewer + "fun m(){f();}");
        }
    }

    /** Behind as many statements as there can be, one more can still be begun, in BLOCKs, too. */
    private static void statementOnlyBegun() {
        String most = "fun m(){" + "f();".repeat(1997);
        String[] tails = {
            "f@", "f(@", "f()@", "f();@", "x=@", "x=y@", "x=y;@", "x[@", "x[y@", "var@", "if(@", "if@", "@any",
            "f(@;", "f()@}", "x=y@]", "x[y@;", "var@;", "if(@)", "}@}", "}@f()", "}fun@", "}@var",
        };
        for (String tail : tails) {
            CHECK.fault(most + tail);
        }
        String opened = "fun m(){" + "if(a<b){".repeat(29);
        String inside = "f();".repeat((MOST - opened.length() - 4) / 4);
        CHECK.fault(opened + inside + "x@");
        CHECK.fault(opened + inside + "x=y@");
        CHECK.fault(opened + inside + "f(@=");
        CHECK.fault(opened + inside + "}}}}@");
    }

    private static void statements() {
        String most = "fun f(){" + "f();".repeat(1994) + "}";
        CHECK.right(most + "fun m(){}");
        CHECK.wrong(4, "fun m(){@" + "f();".repeat(1997) + "}");
        CHECK.fault("fun m(){" + "f();".repeat(1998) + "@");
    }

    private static void tokens() {
        String sum = "1+".repeat(3990) + "1";
        ProgramRuns x = CHECK.program("fun m(){var x=" + sum + ";}");
        CHECK.due("a long SUM", x.run(1), 0);
        ProgramRuns y = CHECK.program("fun m(){assert(" + "1<2&&".repeat(1590) + "2<1);}");
        CHECK.due("a long COND", y.run(1), 8);
        CHECK.fault("fun m(){x=" + "1+".repeat(3995) + "@");
        CHECK.fault("@" + "}".repeat(MOST));
        CHECK.fault("fun m(){x=" + "(".repeat(59) + "@" + "(".repeat(7931));
    }

    private static void names() {
        StringBuilder text = new StringBuilder("fun m(){var abcdefghijklmnopqrstuvwxyz0123;var x=0");
        while (text.length() < MOST - 80) {
            text.append("+abcdefghijklmnopqrstuvwxyz0123");
        }
        CHECK.right(text + ";}");
        CHECK.wrong(1, text + "+@abcdefghijklmnopqrstuvwxyz012;}");
    }

    private static void parameters() {
        StringBuilder names = new StringBuilder("a0");
        StringBuilder sums = new StringBuilder("0");
        for (int i = 1; i < 800; i++) {
            names.append(",a").append(i);
            sums.append(",").append(i % 10);
        }
        CHECK.wrong(10, "fun f(" + names + "){}fun m(){@f(" + sums + ");}");
        CHECK.wrong(2, "fun f(" + names + ",@a7){}fun m(){f(" + sums + ",1);}");
        CHECK.wrong(5, "fun f(" + names + "){}fun m(){@f(" + sums + ",1);}");
    }

    /** Together they have more statements, functions and operations than one text can have. */
    private static void twoOnOneObject() {
        String[][] pairs = {
            {"fun f(){" + "f();".repeat(1700) + "}fun m(){}", "fun f(){" + "f();".repeat(600) + "}fun m(){}"},
            {"fun f(){}".repeat(800), "fun f(){}".repeat(260)},
            {"fun m(){var x=" + "1+".repeat(3500) + "1;}", "fun m(){var x=" + "1+".repeat(1200) + "1;assert(x==1201);}"},
        };
        for (String[] pair : pairs) {
            ProgramRuns x = new ProgramRuns();
            CHECK.due("the first long text", Check.end(x, pair[0]), 0);
            CHECK.due("the second one", Check.end(x, pair[1]), 0);
            CHECK.due("its run", x.run(9), 0);
        }
    }

    private static void remark() {
        String text = "fun m(){}//";
        CHECK.right(text + "x".repeat(MOST - text.length()));
        CHECK.fault("//" + "x".repeat(MOST - 2) + "@");
    }
}
