/**
 * "None may lie more than 60 deep", and THE FAULT lies at "the first token of something that is 61
 * deep": for each place at which a BLOCK, SUM, COND, FACTOR behind - or TEST behind ! can lie.
 */
public final class DepthEdgesTest {
    private static final int MOST = 60;
    private static final Check CHECK = new Check();

    public static void main(String[] args) {
        theDocumentsOwn();
        sumsInStatements();
        sumsInConds();
        sumsInSums();
        sumsInBlocks();
        condsInStatements();
        condsInConds();
        condsInBlocks();
        whatBeginsTooDeep();
        limitsAreNotDeeper();
        blocks();
        depthOfWhatIsBesideIt();
        depthOfCalls();
        theFirstFault();
        CHECK.close();
    }

    private static String put(String statements, String inside) {
        return "fun m(){" + statements.replace("~", inside) + "}";
    }

    private static String wrapped(int times, String open, String inside, String close) {
        return open.repeat(times) + inside + close.repeat(times);
    }

    /** The ~ is a SUM that lies that deep; in it others may lie up to 60 deep. */
    private static void sum(int depth, String statements) {
        int more = MOST - depth;
        String[][] pairs = {{"(", ")"}, {"-", ""}, {"t[", "]"}};
        for (String[] pair : pairs) {
            CHECK.noFault(put(statements, wrapped(more - 1, pair[0], "1", pair[1])));
            CHECK.noFault(put(statements, wrapped(more, pair[0], "1", pair[1])));
            CHECK.fault(put(statements, wrapped(more + 1, pair[0], "@1", pair[1])));
            CHECK.fault(put(statements, wrapped(more + 1, pair[0], "@y[1]", pair[1])));
            CHECK.fault(put(statements, pair[0].repeat(more + 1) + "@" + wrapped(9, pair[0], "1", pair[1])));
        }
        CHECK.noFault(put(statements, wrapped(more, "(", "1+y*any(1,2)%3", ")")));
        CHECK.fault(put(statements, wrapped(more, "(", "1+-@y", ")")));
        CHECK.fault(put(statements, wrapped(more, "(", "1-2*(@y)", ")")));
        CHECK.fault(put(statements, wrapped(more, "(", "any/t[@y]", ")")));
    }

    /** The ~ is a COND that lies that deep; the SUMs in it lie deeper still. */
    private static void cond(int depth, String statements) {
        int more = MOST - 1 - depth;
        String[][] pairs = {{"[", "]"}, {"!", ""}};
        for (String[] pair : pairs) {
            CHECK.noFault(put(statements, wrapped(more - 1, pair[0], "1<2", pair[1])));
            CHECK.noFault(put(statements, wrapped(more, pair[0], "1<2", pair[1])));
            CHECK.fault(put(statements, wrapped(more, pair[0], "-@1<2", pair[1])));
            CHECK.fault(put(statements, wrapped(more, pair[0], "1<(@2)", pair[1])));
            CHECK.fault(put(statements, wrapped(more + 1, pair[0], "@1<2", pair[1])));
            CHECK.fault(put(statements, wrapped(more + 1, pair[0], "@-1<2", pair[1])));
            CHECK.fault(put(statements, wrapped(more + 1, pair[0], "!@1<2", pair[1])));
            CHECK.fault(put(statements, wrapped(more + 2, pair[0], "@!1<2", pair[1])));
            CHECK.fault(put(statements, wrapped(more + 2, pair[0], "@[1<2]", pair[1])));
            CHECK.fault(put(statements, wrapped(more + 2, pair[0], "@1<2", pair[1])));
        }
        CHECK.noFault(put(statements, wrapped(more, "[", "1<2&&3<4||5<6", "]")));
        CHECK.fault(put(statements, wrapped(more, "[", "1<2&&3<t[@4]", "]")));
        CHECK.fault(put(statements, wrapped(more, "[", "1<2||!@3<4", "]")));
        CHECK.fault(put(statements, wrapped(more, "[", "1<2||[@3<4]", "]")));
        // What is behind && or || is in the COND, not in the TEST behind !.
        CHECK.noFault(put(statements, "!".repeat(more) + "1<2&&" + "!".repeat(more) + "1<2||1<2"));
        CHECK.fault(put(statements, "!".repeat(more) + "1<2||" + "!".repeat(more + 1) + "@1<2"));
    }

    /** "(fun f() { x = -(y); } : 4 deep, at y)", so with 56 more it is 60 deep. */
    private static void theDocumentsOwn() {
        CHECK.noFault("fun f() { x = -(" + wrapped(56, "(", "y", ")") + "); }");
        CHECK.fault("fun f() { x = -(" + wrapped(57, "(", "@y", ")") + "); }");
    }

    private static void sumsInStatements() {
        sum(2, "var x=~;");
        sum(2, "x=~;");
        sum(2, "t[~]=1;");
        sum(2, "t[0]=~;");
        sum(2, "f(~);");
        sum(2, "f(~,1);");
        sum(2, "f(1,~);");
        sum(2, "f(1,2,~);");
        sum(2, "x=f(~);");
        sum(2, "x=f(1,~);");
        sum(2, "return ~;");
    }

    private static void sumsInConds() {
        for (String statement : new String[] {"if(*){}", "if(*){}else{}", "while(*){}", "assert(*);"}) {
            sum(3, statement.replace("*", "~<1"));
            sum(3, statement.replace("*", "1<~"));
            sum(3, statement.replace("*", "1<2&&~<3"));
            sum(3, statement.replace("*", "1<2||3<~"));
            sum(4, statement.replace("*", "!~<1"));
            sum(4, statement.replace("*", "!1<~"));
            sum(4, statement.replace("*", "[~<1]"));
            sum(5, statement.replace("*", "![1<~]"));
            sum(5, statement.replace("*", "[1<2||!~<3]"));
        }
    }

    private static void sumsInSums() {
        sum(3, "x=(~);");
        sum(3, "x=t[~];");
        sum(4, "x=-(~);");
        sum(4, "x=-t[~];");
        sum(5, "x=--(~);");
        sum(4, "x=t[(~)];");
        sum(3, "x=1+(~)*2;");
        sum(3, "x=(1)+t[2]*-3%(~);");
        sum(3, "t[t[~]]=1;");
        sum(3, "t[0]=t[~];");
    }

    private static void sumsInBlocks() {
        sum(3, "if(1<2){x=~;}");
        sum(3, "if(1<2){}else{x=~;}");
        sum(3, "while(1<2){t[~]=1;}");
        sum(4, "if(1<2){while(1<2){f(~);}}");
        sum(5, "while(1<2){if(1<2){}else{assert(1<~);}}");
        sum(MOST - 1, wrapped(57, "if(1<2){", "var x=~;", "}"));
        sum(MOST - 1, wrapped(57, "while(1<2){", "x=f(~);", "}"));
        sum(MOST - 1, wrapped(57, "if(1<2){}else{", "t[1]=~;", "}"));
    }

    private static void condsInStatements() {
        cond(2, "if(~){}");
        cond(2, "if(~){}else{}");
        cond(2, "while(~){}");
        cond(2, "assert(~);");
    }

    private static void condsInConds() {
        cond(3, "assert([~]);");
        cond(4, "assert([[~]]);");
        cond(4, "assert(![~]);");
        cond(3, "assert(1<2||[~]);");
        cond(3, "assert(1<2&&[~]&&3<4);");
        cond(4, "if(!1<2||![~]){}");
        cond(4, "while([1<2&&[~]]){}");
    }

    private static void condsInBlocks() {
        cond(3, "if(1<2){assert(~);}");
        cond(3, "if(1<2){}else{if(~){}}");
        cond(3, "while(1<2){while(~){}}");
        cond(MOST - 2, wrapped(56, "if(1<2){", "if(~){}", "}"));
        cond(MOST - 2, wrapped(56, "while(1<2){", "assert(~);", "}"));
    }

    /** It is the first token that counts, even one with which no text goes on, or none. */
    private static void whatBeginsTooDeep() {
        for (String first : new String[] {"@any", "@y", "@t[0]", "@(1)", "@-1", "@7", "@)", "@;", "@#", "@", " \n// (\n @1"}) {
            CHECK.fault("fun m(){x=" + "(".repeat(59) + first);
            CHECK.fault("fun m(){x=" + "-".repeat(59) + first);
            CHECK.fault("fun m(){x=" + "t[".repeat(59) + first);
            CHECK.fault("fun m(){assert(" + "[".repeat(59) + first);
            CHECK.fault("fun m(){assert(" + "!".repeat(59) + first);
        }
        for (String first : new String[] {"@any", "@y", "@(1)", "@-1", "@7"}) {
            CHECK.fault("fun m(){assert(" + "[".repeat(58) + first);
            CHECK.fault("fun m(){assert(" + "!".repeat(58) + first);
        }
        CHECK.fault("fun m(){assert(" + "[".repeat(58) + "[@1");
        CHECK.fault("fun m(){assert(" + "!".repeat(58) + "!@1");
    }

    /** The - of a LIMIT has no FACTOR behind it. */
    private static void limitsAreNotDeeper() {
        CHECK.right("fun m(){var x=" + wrapped(58, "(", "any(-2,-1)", ")") + ";}");
        CHECK.right("fun m(){var x=" + "-".repeat(58) + "any(-2,-1);}");
        CHECK.fault("fun m(){var x=" + "-".repeat(58) + "-@any(-2,-1);}");
    }

    /** A BLOCK that is 60 deep never comes: the SUM in the COND in front of it is 61 deep. */
    private static void blocks() {
        for (String open : new String[] {"if(1<2){", "while(1<2){", "if(1<2){}else{"}) {
            CHECK.right(put("~", wrapped(57, open, "", "}")));
            CHECK.right(put("~", wrapped(58, open, "", "}")));
            CHECK.right(put("~", wrapped(58, open, "var x=1;x=2;", "}")));
            CHECK.fault(put("~", open.repeat(58) + open.replace("1<2", "@1<2") + "}".repeat(59)));
        }
        CHECK.right(put("~", wrapped(57, "if(1<2){", "if(1<2){}else{}while(1<2){}assert(1<2);", "}")));
        CHECK.fault(put("~", wrapped(58, "if(1<2){", "assert(@1<2);", "}")));
    }

    /** What is closed makes nothing behind it deeper. */
    private static void depthOfWhatIsBesideIt() {
        String deepest = wrapped(58, "(", "1", ")");
        CHECK.right(put("var x=~;", deepest + "+" + deepest + "*-1-" + deepest));
        CHECK.right(put("var x=~;x=~;x=~;", deepest));
        CHECK.right(put("var x=~;", "(1)+".repeat(100) + "-1" + "--1".repeat(100)));
        String cond = wrapped(57, "[", "1<2", "]");
        CHECK.right(put("assert(~);", cond + "&&" + cond + "||" + cond + "&&1<2"));
        CHECK.right(put("assert(~);", "[1<2]&&".repeat(100) + "!1<2" + "||!1<2".repeat(100)));
        CHECK.right(put("~", "if(1<2){}".repeat(61) + "while(1<2){}".repeat(61) + wrapped(58, "if(1<2){", "", "}")));
        CHECK.right("fun f(){}".repeat(61) + put("~", wrapped(58, "if(1<2){", "", "}")));
    }

    /** Depth is that of the text: a function's BLOCK is 1 deep wherever the function is called. */
    private static void depthOfCalls() {
        String function = "fun f(a){var x=" + wrapped(58, "(", "a", ")") + ";" + wrapped(58, "if(1<2){", "x=1;", "}") + "}";
        CHECK.right(function + put("~", wrapped(58, "if(1<2){", "f(1);", "}")));
        CHECK.right("fun f(a){return a;}" + put("var x;~", wrapped(58, "if(1<2){", "x=f(x);", "}")));
        CHECK.right(function + "fun g(){f(1);}fun m(){f(1);if(1<2){g();}}");
    }

    private static void theFirstFault() {
        CHECK.fault("fun m(){x=" + "(".repeat(59) + "@1" + ")".repeat(59) + "+;}");
        CHECK.fault("fun m(){x=@+;x=" + "(".repeat(59) + "1;}");
        CHECK.fault("fun m(){@#x=" + "(".repeat(70) + "1");
        CHECK.fault("fun m(){x=" + "(".repeat(59) + "@(((((((((((1 2147483648");
        CHECK.fault("fun m(){x=" + "(".repeat(58) + "@");
        CHECK.fault("fun m(){x=" + "(".repeat(58) + "1" + ")".repeat(58) + "@)");
    }
}
