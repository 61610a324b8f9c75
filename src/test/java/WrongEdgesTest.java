/**
 * WHAT IS WRONG, 1 to 13, each at its edge and one step beyond it, its place, and which comes
 * first where there are several. The @ marks the place and is no part of the texts.
 */
public final class WrongEdgesTest {
    private static final Check CHECK = new Check();

    public static void main(String[] args) {
        meantFromBehindItsStatement();
        meantUpToTheEndOfItsBlock();
        withinAFunctionOnlyItsOwn();
        theInnermostLatestOne();
        anotherOneInTheSameBlock();
        parametersInTheSameBlock();
        arraysWhereNumbersMustStand();
        functionsMeantFromBehindTheirBlock();
        sumsTooManyOrTooFew();
        returnsThatAreNotLast();
        valuesOfFunctionsThatDoNotReturn();
        whatTheProgramMayNotHave();
        limitsAtTheEdge();
        placesAtTheEdge();
        twelveNumbers();
        twelveNumbersInCalls();
        sixArrays();
        statementsWithoutVariables();
        pointsAtTheEdge();
        pointsOfPutInFunctions();
        parametersOfTheProgramComeFirst();
        tooManyPointsComeFirst();
        fromLeftToRight();
        orderInCalls();
        orderInVars();
        orderInReturns();
        orderOfThePoints();
        onceForEachCall();
        neverCalled();
        CHECK.close();
    }

    private static void wrong(int what, String statements) {
        CHECK.wrong(what, "fun m(){" + statements + "}");
    }

    private static void right(String statements) {
        CHECK.right("fun m(){" + statements + "}");
    }

    private static String each(String piece, int count) {
        StringBuilder text = new StringBuilder();
        for (int i = 0; i < count; i++) {
            text.append(piece.replace("~", Integer.toString(i)));
        }
        return text.toString();
    }

    private static String listed(String piece, int count) {
        String text = each(piece + ",", count);
        return text.isEmpty() ? text : text.substring(0, text.length() - 1);
    }

    private static String vars(int count) {
        return each("var v~;", count);
    }

    private static String arrays(int count) {
        return each("var t~[1];", count);
    }

    private static String function(int parameters) {
        return "fun f(" + listed("p~", parameters) + "){return 1;}";
    }

    private static String call(int sums) {
        return "f(" + listed("~", sums) + ");";
    }

    /** 1, and "a var, or a parameter, is meant from behind its statement (its head) on". */
    private static void meantFromBehindItsStatement() {
        wrong(1, "@x=1;var x;");
        wrong(1, "var x=@x;");
        wrong(1, "var x=1+(2*-@x);");
        wrong(1, "@x[0]=1;var x[1];");
        wrong(1, "var y=@x[0];var x[1];");
        right("var x;x=x;var y=x;");
        right("var x[1];x[0]=x[0];");
        right("var x;if(1<2){var x=x;}");
        CHECK.right("fun f(a,b){a=b;}fun m(){f(1,2);}");
        CHECK.wrong(1, "fun f(a,b){a=@c;}fun m(){var c;f(1,2);}");
        CHECK.wrong(1, "fun f(a,b){}fun m(){f(1,@a);}");
    }

    /** "up to the end of the BLOCK that it is in (of the function's)". */
    private static void meantUpToTheEndOfItsBlock() {
        right("if(1<2){var x;x=1;}");
        wrong(1, "if(1<2){var x;x=1;}@x=1;");
        wrong(1, "if(1<2){var x;x=1;}else{@x=1;}");
        wrong(1, "if(1<2){}else{var x;x=1;}@x=1;");
        wrong(1, "while(1<2){var x;x=1;}@x=1;");
        wrong(1, "while(@x<2){var x;x=1;}");
        wrong(1, "if(1<2){if(1<2){var x;x=1;}@x=1;}");
        wrong(1, "if(1<2){var x[2];x[0]=1;}@x[0]=1;");
        right("var x;if(1<2){if(1<2){}x=1;}else{x=2;}while(x<3){x=4;}x=5;");
        CHECK.wrong(1, "fun f(a){var b;}fun m(){f(1);@a=1;}");
        CHECK.wrong(1, "fun f(a){var b;}fun m(){f(1);@b=1;}");
        CHECK.right("fun f(a){if(1<2){}a=1;}fun m(){f(1);}");
        CHECK.wrong(1, "fun f(){@x=1;}fun m(){var x;x=1;f();}");
        CHECK.wrong(1, "fun g(){@a=1;}fun f(a){g();}fun m(){f(1);}");
    }

    /** "Within a function only its own are.": in its BLOCK and in those within it. */
    private static void withinAFunctionOnlyItsOwn() {
        String[] functions = {"fun f(){~}", "fun f(){if(1<2){~}}", "fun f(){while(1<2){if(1<2){}else{~}}}", "fun f(){if(1<2){}~}"};
        for (String function : functions) {
            for (int numbers = 0; numbers <= 3; numbers++) {
                for (int arrays = 0; arrays <= 3; arrays++) {
                    String program = "fun m(){" + vars(numbers) + arrays(arrays) + "f();}";
                    CHECK.wrong(1, function.replace("~", "@v0=1;") + program);
                    CHECK.wrong(1, function.replace("~", "@v2=1;") + program);
                    CHECK.wrong(1, function.replace("~", "var x=@t0[0];") + program);
                    CHECK.wrong(1, function.replace("~", "@t2[0]=1;") + program);
                    CHECK.right(function.replace("~", "var v0;v0=1;var t0[1];t0[0]=v0;if(1<2){v0=t0[0];}") + program);
                }
            }
        }
    }

    private static void theInnermostLatestOne() {
        wrong(3, "var x;if(1<2){var x[2];@x=1;}");
        wrong(3, "var x[2];if(1<2){var x;@x[0]=1;}");
        right("var x;if(1<2){var x[2];x[0]=1;}x=1;");
        right("var x[2];if(1<2){x[1]=1;var x;x=1;}x[0]=1;");
        CHECK.right("fun f(){}fun f(a){}fun m(){f(1);}");
        CHECK.wrong(5, "fun f(){}fun f(a){}fun m(){@f();}");
    }

    /** 2, "a var or parameter with a name that another one in the same BLOCK has". */
    private static void anotherOneInTheSameBlock() {
        wrong(2, "var x;var @x;");
        wrong(2, "var x;var y;var z;var @x=1;");
        wrong(2, "var x[1];var @x[1];");
        wrong(2, "var x;var @x[1];");
        wrong(2, "var x[1];var @x;");
        wrong(2, "var x;if(1<2){var x;}var @x;");
        wrong(2, "while(1<2){var x;while(1<2){}var @x;}");
        wrong(2, "if(1<2){}else{var x;var @x;}");
        right("var x;if(1<2){var x;}else{var x;}while(1<2){var x;while(1<2){var x;}}");
        right("if(1<2){var x;}else{var x;}var x;");
        right("var x;var X;var xx;var x_;var _x;var x0;");
    }

    /** "(for a function's BLOCK, its parameters too)", "the NAME (of a parameter where it is told)". */
    private static void parametersInTheSameBlock() {
        CHECK.wrong(2, "fun f(a){var @a;}fun m(){f(1);}");
        CHECK.wrong(2, "fun f(a,b){var @b[1];}fun m(){f(1,2);}");
        CHECK.wrong(2, "fun f(a,b){if(1<2){var a;}var @a;}fun m(){f(1,2);}");
        CHECK.right("fun f(a,b){if(1<2){var a;}while(1<2){var b;}}fun m(){f(1,2);}");
        CHECK.right("fun f(a){}fun m(){var a;f(a);}");
        CHECK.wrong(2, "fun f(a,@a){}fun m(){f(1,2);}");
        CHECK.wrong(2, "fun f(a,b,@b,a){}fun m(){f(1,2,3,4);}");
        CHECK.wrong(2, "fun f(a,b,@a,b){}fun m(){f(1,2,3,4);}");
        CHECK.wrong(2, "fun f(a,b,c,@c){}fun m(){if(1<2){f(1,2,3,4);}}");
        CHECK.right("fun f(a,b,c){}fun m(){f(1,2,3);f(1,2,3);}");
    }

    /** 3, "an array where a number must stand, or the other way round". */
    private static void arraysWhereNumbersMustStand() {
        for (String use : new String[] {"@t=1;", "x=@t;", "x=1+-(@t);", "u[@t]=1;", "u[0]=@t;", "x=u[@t];", "var y=@t;",
                "if(@t<1){}", "while(1<@t){}", "assert(1<2||!@t<1);", "f(@t);", "x=f(@t);", "@t=f(1);"}) {
            CHECK.wrong(3, "fun f(a){return a;}fun m(){var x;var t[2];var u[2];" + use + "}");
            CHECK.right("fun f(a){return a;}fun m(){var x;var t;var u[2];" + use.replace("@", "") + "}");
        }
        for (String use : new String[] {"@x[0]=1;", "y=@x[0];", "y=-(1*@x[0]);", "u[@x[0]]=1;", "assert(@x[0]<1);", "f(@x[0]);"}) {
            CHECK.wrong(3, "fun f(a){}fun m(){var x;var y;var u[2];" + use + "}");
            CHECK.right("fun f(a){}fun m(){var x[1];var y;var u[2];" + use.replace("@", "") + "}");
        }
        CHECK.wrong(3, "fun f(a){@a[0]=1;}fun m(){f(1);}");
    }

    /** 4, and "a function is meant by its name from behind its BLOCK on (so none calls itself)". */
    private static void functionsMeantFromBehindTheirBlock() {
        wrong(4, "@f();");
        wrong(4, "var x;x=@f();");
        wrong(4, "@m();");
        wrong(4, "var f;@f();");
        CHECK.right("fun f(){}fun m(){f();}");
        CHECK.wrong(4, "fun f(){@f();}fun m(){f();}");
        CHECK.right("fun f(){}fun f(){f();}fun m(){f();}");
        CHECK.wrong(4, "fun f(){@g();}fun g(){}fun m(){f();}");
        CHECK.right("fun g(){}fun f(){g();}fun m(){f();}");
        CHECK.wrong(4, "fun f(){@m();}fun m(){f();}");
        CHECK.right("fun m(){}fun m(){m();}");
        CHECK.wrong(4, "fun f(a){@a();}fun m(){f(1);}");
    }

    /** 5, "a call with too many SUMs or too few". */
    private static void sumsTooManyOrTooFew() {
        for (int parameters = 0; parameters <= 4; parameters++) {
            for (int sums = 0; sums <= 5; sums++) {
                String marked = parameters == sums ? "" : "@";
                String plain = function(parameters) + "fun m(){" + marked + call(sums) + "}";
                String named = function(parameters) + "fun m(){var x;x=" + marked + call(sums) + "}";
                if (parameters == sums) {
                    CHECK.right(plain);
                    CHECK.right(named);
                } else {
                    CHECK.wrong(5, plain);
                    CHECK.wrong(5, named);
                }
            }
        }
    }

    /** 6, "a return that is not the last statement of its function's BLOCK". */
    private static void returnsThatAreNotLast() {
        CHECK.right("fun f(){return 1;}fun m(){f();}");
        CHECK.right("fun f(){var x;return x;}fun m(){f();}");
        CHECK.right("fun f(){if(1<2){}return 1;}fun m(){f();}");
        CHECK.wrong(6, "fun f(){@return 1;var x;}fun m(){f();}");
        CHECK.wrong(6, "fun f(){@return 1;return 2;}fun m(){f();}");
        CHECK.wrong(6, "fun f(){if(1<2){@return 1;}}fun m(){f();}");
        CHECK.wrong(6, "fun f(){if(1<2){}else{@return 1;}}fun m(){f();}");
        CHECK.wrong(6, "fun f(){while(1<2){@return 1;}}fun m(){f();}");
        CHECK.wrong(6, "fun f(){if(1<2){@return 1;}return 2;}fun m(){var x;x=f();}");
        wrong(6, "@return 1;var x;");
        wrong(6, "@return 1;return 2;");
        wrong(6, "if(1<2){@return 1;}");
        wrong(6, "while(1<2){}if(1<2){}else{@return 1;}");
    }

    /** 6, "or a value of a function that does not return". */
    private static void valuesOfFunctionsThatDoNotReturn() {
        CHECK.right("fun f(){return 1;}fun m(){var x;x=f();}");
        CHECK.wrong(6, "fun f(){}fun m(){var x;x=@f();}");
        CHECK.wrong(6, "fun f(){var y=1;}fun m(){var x;x=@f();}");
        CHECK.wrong(6, "fun g(){return 1;}fun f(){var y;y=g();}fun m(){var x;x=@f();}");
        CHECK.wrong(6, "fun g(){return 1;}fun f(){g();}fun m(){var x;x=@f();}");
        CHECK.right("fun g(){}fun f(){g();return 1;}fun m(){var x;x=f();}");
        CHECK.right("fun f(){}fun m(){f();}");
        CHECK.right("fun f(){}fun f(){return 1;}fun m(){var x;x=f();}");
        CHECK.wrong(6, "fun f(){return 1;}fun f(){}fun m(){var x;x=@f();}");
    }

    /** 7, "the program has parameters, or a return as its last statement". */
    private static void whatTheProgramMayNotHave() {
        CHECK.right("fun f(a){return a;}fun m(){}");
        CHECK.wrong(7, "fun @m(a){}");
        CHECK.wrong(7, "fun f(){}fun @m(a,b){}");
        wrong(7, "@return 1;");
        wrong(7, "var x;@return x;");
        wrong(7, "if(1<2){}@return 1;");
        CHECK.wrong(7, "fun f(){return 1;}fun m(){f();@return 1;}");
    }

    /** 8, "the first LIMIT above the second one", at "the first LIMIT (its -, if it has one)". */
    private static void limitsAtTheEdge() {
        int[] limits = {-2147483647, -2147483646, -1, 0, 1, 2147483646, 2147483647};
        for (int first : limits) {
            for (int second : limits) {
                if (first <= second) {
                    right("var x=any(" + first + "," + second + ");");
                } else {
                    wrong(8, "var x=any(@" + first + "," + second + ");");
                }
            }
        }
        right("var x=any(-0,0)+any(0,-0);");
        wrong(8, "var x=any( @- 1 , - 2 );");
        for (String use : new String[] {"x=~;", "x=-(1+~);", "t[~]=1;", "t[0]=~;", "x=t[~];", "if(1<~){}", "while(~<1){}",
                "assert(1<2||[!~<1]);", "f(~);", "x=f(~);"}) {
            CHECK.right("fun f(a){return a;}fun m(){var x;var t[2];" + use.replace("~", "any(1,1)") + "}");
            CHECK.wrong(8, "fun f(a){return a;}fun m(){var x;var t[2];" + use.replace("~", "any(@1,0)") + "}");
        }
        CHECK.wrong(8, "fun f(){return any(@1,0);}fun m(){f();}");
    }

    /** 9, "an array that has not 1 to 64 places". */
    private static void placesAtTheEdge() {
        for (int places : new int[] {1, 2, 63, 64}) {
            right("var t[" + places + "];");
            CHECK.right("fun f(){if(1<2){var t[" + places + "];}}fun m(){f();}");
        }
        for (int places : new int[] {0, 65, 66, 128, 256, 320, 65537, 2147483647}) {
            wrong(9, "var t[@" + places + "];");
            wrong(9, "while(1<2){var t[@" + places + "];}");
            CHECK.wrong(9, "fun f(){if(1<2){var t[@" + places + "];}}fun m(){f();}");
        }
    }

    /** 10, "more than 12 numbers .. at a time", at "the first token of the statement". */
    private static void twelveNumbers() {
        right(vars(11));
        right(vars(12));
        right(vars(12) + arrays(6));
        wrong(10, vars(12) + "@var x;");
        wrong(10, vars(12) + "@var x=1;");
        wrong(10, arrays(6) + vars(12) + "@var x=v0+v11;");
        right(vars(11) + "if(1<2){var x;}else{var x;}while(1<2){var x;}var x;");
        wrong(10, vars(11) + "if(1<2){var x;@var y;}");
        wrong(10, vars(11) + "if(1<2){var x;}else{var x;@var y;}");
        wrong(10, vars(11) + "while(1<2){var x;if(1<2){@var y;}}");
        wrong(10, vars(12) + "if(1<2){@var y;}");
        right("if(1<2){" + vars(12) + "}while(1<2){" + vars(12) + "}" + vars(12));
        wrong(10, "if(1<2){" + vars(12) + "}else{" + vars(12) + "@var x;}");
    }

    /** "(for parameters, that of the call)". */
    private static void twelveNumbersInCalls() {
        for (int parameters = 0; parameters <= 12; parameters++) {
            int most = 12 - parameters;
            CHECK.right(function(parameters) + "fun m(){" + vars(most) + call(parameters) + "}");
            if (parameters > 0) {
                CHECK.wrong(10, function(parameters) + "fun m(){" + vars(most + 1) + "@" + call(parameters) + "}");
                CHECK.wrong(10, function(parameters) + "fun m(){" + vars(most + 1) + "@v0=" + call(parameters) + "}");
                CHECK.wrong(10, function(parameters) + "fun m(){" + vars(most) + "if(1<2){var x;@" + call(parameters) + "}}");
            }
        }
        CHECK.right(function(0) + "fun m(){" + vars(12) + "v0=f();}");
        CHECK.wrong(10, function(13) + "fun m(){@" + call(13) + "}");
        CHECK.wrong(10, function(40) + "fun m(){@" + call(40) + "}");
        CHECK.right("fun f(a){var b;}fun m(){" + vars(10) + "f(1);f(2);if(1<2){f(3);}}");
        CHECK.wrong(10, "fun f(a){var b;@var c;}fun m(){" + vars(10) + "f(1);}");
        CHECK.wrong(10, "fun g(a){}fun f(a){@g(a);}fun m(){" + vars(11) + "f(1);}");
        CHECK.right("fun g(a){}fun f(a){g(a);}fun m(){" + vars(10) + "f(1);}");
    }

    /** 13, "more than 6 arrays, at a time". */
    private static void sixArrays() {
        right(arrays(5));
        right(arrays(6));
        right(arrays(6) + vars(12));
        wrong(13, arrays(6) + "@var x[1];");
        wrong(13, vars(12) + arrays(6) + "@var x[64];");
        right(arrays(5) + "if(1<2){var x[1];}else{var x[1];}while(1<2){var x[1];}var x[1];");
        wrong(13, arrays(5) + "if(1<2){var x[1];@var y[1];}");
        wrong(13, arrays(6) + "while(1<2){@var y[1];}");
        CHECK.right("fun f(a){var x[1];}fun m(){" + arrays(5) + "f(1);f(2);}");
        CHECK.wrong(13, "fun f(a){@var x[1];}fun m(){" + arrays(6) + "f(1);}");
        CHECK.wrong(13, "fun g(){@var x[1];}fun f(){var x[1];g();}fun m(){" + arrays(5) + "f();}");
    }

    /** With 12 numbers and 6 arrays there, a statement that brings none is right. */
    private static void statementsWithoutVariables() {
        for (String statement : new String[] {"v0=1;", "v0=(1);", "v11=t5[0];", "t5[0]=1;", "t0[v11]=v0;", "f();", "v0=g();", "g();",
                "if(1<2){}", "if([1<2]){}else{}", "while([1<2]){}", "while(1<2){}", "assert([1<2]);", "assert(!1<2);", "f();g();f();"}) {
            CHECK.right("fun f(){}fun g(){return 1;}fun m(){" + vars(12) + arrays(6) + statement + "}");
            CHECK.right("fun f(){}fun g(){return 1;}fun m(){" + arrays(6) + vars(12) + "if(1<2){" + statement + "}}");
        }
    }

    /** 11, "more than 250 points, the end too": for each statement as the 249th and the 250th. */
    private static void pointsAtTheEdge() {
        String fill = "fun f(){}fun g(){return 1;}fun m(){var x;var t[2];" + "x=1;".repeat(246);
        for (String last : new String[] {"var y;", "var y=1;", "var u[1];", "x=2;", "t[0]=1;", "f();", "if(1<2){}",
                "if(1<2){}else{}", "while(1<2){}", "assert(1<2);"}) {
            ProgramRuns x = CHECK.program(fill + last + "}");
            CHECK.due("points with 249 statements", x.points(), 250);
            CHECK.wrong(11, fill + "x=3;@" + last + "}");
        }
        CHECK.wrong(11, fill + "x=3;@x=g();}");
        CHECK.wrong(11, fill + "x=3;@g();}");
        right("x=1;".repeat(248).replaceFirst("x=1;", "var x;") + "if(1<2){}");
        wrong(11, "var x;" + "x=1;".repeat(247) + "if(1<2){@x=1;}");
        wrong(11, "var x;" + "x=1;".repeat(247) + "if(1<2){}else{@x=1;}");
        wrong(11, "var x;" + "x=1;".repeat(247) + "while(1<2){@x=1;}");
        wrong(11, "var x;" + "x=1;".repeat(246) + "if(1<2){x=1;}else{@x=1;}");
        right("var x;" + "x=1;".repeat(246) + "if(1<2){x=1;}else{}");
    }

    private static void pointsOfPutInFunctions() {
        String fill = "var x;" + "x=1;".repeat(246);
        CHECK.right("fun f(){return 1;}fun m(){" + fill + "x=f();}");
        CHECK.wrong(11, "fun f(){@return 1;}fun m(){" + fill + "x=1;x=f();}");
        CHECK.wrong(11, "fun f(){return 1;}fun m(){" + fill + "x=f();@x=1;}");
        CHECK.wrong(11, "fun f(){var y;@return 1;}fun m(){" + fill + "f();}");
        CHECK.right("fun f(){" + vars(8) + "}fun m(){" + "f();".repeat(27) + "var x;" + "x=1;".repeat(5) + "}");
        CHECK.wrong(11, "fun f(){" + vars(8) + "}fun m(){" + "f();".repeat(27) + "var x;" + "x=1;".repeat(5) + "@x=2;}");
        CHECK.right("fun f(){" + "if(1<2){}".repeat(248) + "}fun m(){f();}");
        CHECK.wrong(11, "fun f(){" + "if(1<2){}".repeat(248) + "@if(1<2){}}fun m(){f();}");
        CHECK.right("fun f(){" + "if(1<2){}".repeat(300) + "}fun m(){}");
    }

    /** "7 for parameters comes before all." */
    private static void parametersOfTheProgramComeFirst() {
        for (String statements : new String[] {"x=1;", "var a;", "a[0]=1;", "f();", "g();", "return 1;", "return 1;var x;",
                "a=any(2,1);", "var t[0];", vars(13), arrays(7), "if(1<2){}".repeat(250)}) {
            CHECK.wrong(7, "fun g(a,a){}fun @m(a,b){" + statements + "}");
        }
        CHECK.wrong(7, "fun @m(a,a){}");
        CHECK.wrong(7, "fun @m(" + listed("p~", 13) + "){}");
        CHECK.fault("fun m(a){x=@;}");
    }

    /** "Of one statement 11 comes first". */
    private static void tooManyPointsComeFirst() {
        String functions = "fun g(){}fun h(a,a){return 1;}fun m(){";
        String full = vars(12) + arrays(6) + "v0=1;".repeat(231);
        for (String last : new String[] {"y=1;", "var v0;", "v0=t0;", "t0=1;", "y();", "g(1);", "v0=g();", "return 1;",
                "return y;", "v0=any(2,1);", "var u[0];", "h(1,2);", "var u;", "var u[1];", "if(y<1){}", "while(y<1){}",
                "assert(y<1);"}) {
            CHECK.wrong(11, functions + full + "@" + last + "}");
        }
        CHECK.wrong(11, functions + full + "@return 1;v0=1;}");
    }

    /** "then what stands in it, from the left to the right": the $ is left of the ~. */
    private static void fromLeftToRight() {
        String[] marked = {"@y", "@t", "any(@2,1)", "@x[0]"};
        int[] whats = {1, 3, 8, 3};
        String[] statements = {
            "x=$+~;", "x=-($)*~;", "var z=($-(1%~));", "t[$]=~;", "t[0]=t[$]+~;", "x=t[$-~];", "if($==~){}", "if(1<$&&2<~){}",
            "while(1<2||!$<~){}", "assert([1<$]&&2<~);", "assert(1<2||$<1||~<1);", "f($,~);", "x=f($,~);", "f(1+$*~,2);",
        };
        for (String statement : statements) {
            for (int i = 0; i < marked.length; i++) {
                for (String other : marked) {
                    CHECK.wrong(whats[i], "fun f(a,a){return 1;}fun m(){var x;var t[2];"
                            + statement.replace("$", marked[i]).replace("~", other.replace("@", "")) + "}");
                }
            }
        }
        for (String other : marked) {
            String sum = other.replace("@", "");
            wrong(1, "var x;var t[2];@z=" + sum + ";");
            wrong(3, "var x;var t[2];@t=" + sum + ";");
            wrong(1, "var x;var t[2];@z[" + sum + "]=1;");
            wrong(3, "var x;var t[2];@x[0]=" + sum + ";");
            wrong(1, "var x;var t[2];var z=@z[" + sum + "];");
        }
    }

    /** "with 4, 5, 6 in this order", "then, for a call, 2 for the function's parameters; then 10". */
    private static void orderInCalls() {
        String functions = "fun e(){}fun f(a,a){}fun g(a,a){return 1;}fun h(a,b){y=1;return 1;}";
        String full = functions + "fun m(){var t[1];" + vars(12);
        CHECK.wrong(1, full + "@z=i(y);}");
        CHECK.wrong(3, full + "@t=i(y);}");
        CHECK.wrong(1, full + "@z=f(y);}");
        CHECK.wrong(3, full + "@t=f(y);}");
        CHECK.wrong(1, full + "@z=f(y,y);}");
        CHECK.wrong(3, full + "@t=f(y,y);}");
        CHECK.wrong(4, full + "v0=@i(y);}");
        CHECK.wrong(4, full + "@i(y);}");
        CHECK.wrong(5, full + "v0=@e(y);}");
        CHECK.wrong(5, full + "v0=@f(y);}");
        CHECK.wrong(5, full + "@f(y,y,y);}");
        CHECK.wrong(6, full + "v0=@f(y,y);}");
        CHECK.wrong(6, full + "v0=@f(1,2);}");
        CHECK.wrong(1, full + "v0=g(@y,y);}");
        CHECK.wrong(1, full + "v0=g(1,@y);}");
        CHECK.wrong(8, full + "g(any(@2,1),y);}");
        CHECK.wrong(3, full + "g(1,@t);}");
        CHECK.wrong(2, full.replace("g(a,a)", "g(a,@a)") + "v0=g(1,2);}");
        CHECK.wrong(2, full.replace("g(a,a)", "g(a,@a)") + "g(1,2);}");
        CHECK.wrong(10, full + "@v0=h(1,2);}");
        CHECK.wrong(10, full + "@h(1,2);}");
        CHECK.wrong(1, functions.replace("y=1", "@y=1") + "fun m(){" + vars(10) + "h(1,2);}");
    }

    private static void orderInVars() {
        String full = vars(12) + arrays(6);
        wrong(2, full + "var @v0=y;");
        wrong(2, full + "var @t0=any(2,1);");
        wrong(2, full + "var @v0;");
        wrong(1, full + "var u=@y;");
        wrong(3, full + "var u=@t0;");
        wrong(8, full + "var u=any(@2,1);");
        wrong(10, full + "@var u=v0;");
        wrong(2, full + "var @t0[65];");
        wrong(2, full + "var @v0[0];");
        wrong(2, full + "var @v0[1];");
        wrong(9, full + "var u[@0];");
        wrong(9, full + "var u[@65];");
        wrong(13, full + "@var u[1];");
    }

    /** "(a return's 6 and 7 before its SUM)". */
    private static void orderInReturns() {
        for (String sum : new String[] {"y", "any(2,1)", "x[0]"}) {
            wrong(7, "var x;@return " + sum + ";");
            wrong(6, "var x;@return " + sum + ";x=1;");
            wrong(6, "var x;if(1<2){@return " + sum + ";}");
            CHECK.wrong(6, "fun f(x){@return " + sum + ";x=1;}fun m(){f(1);}");
            CHECK.wrong(6, "fun f(x){while(1<2){@return " + sum + ";}}fun m(){f(1);}");
        }
        CHECK.wrong(1, "fun f(){return @y;}fun m(){f();}");
        CHECK.wrong(8, "fun f(){return any(@2,1);}fun m(){f();}");
    }

    /** "the first of these, in the order of the points": one that lies further on never is. */
    private static void orderOfThePoints() {
        String functions = "fun f(a){@y=1;}fun g(){f(1);z=1;}";
        CHECK.wrong(1, functions + "fun m(){f(1);y=1;}");
        CHECK.wrong(1, functions + "fun m(){g();y=1;}");
        CHECK.wrong(1, functions.replace("@", "") + "fun m(){@y=1;f(1);}");
        CHECK.wrong(1, functions + "fun m(){if(1<2){}else{g();}y=1;}");
        wrong(1, "if(@y<1){y=1;}else{y=1;}");
        wrong(1, "if(1<2){@y=1;}else{y=1;}");
        wrong(1, "if(1<2){}else{@y=1;}y=1;");
        wrong(1, "while(@y<1){y=1;}");
        wrong(1, "while(1<2){@y=1;}y=1;");
        wrong(10, vars(12) + "@var x;y=1;");
        wrong(1, vars(12) + "@y=1;var x;");
        wrong(13, arrays(6) + "@var x[1];var x[0];");
        wrong(9, arrays(5) + "var x[@0];var y[1];var z[1];");
        wrong(1, "@y=1;return 1;");
        wrong(1, "@y=1;" + "if(1<2){}".repeat(250));
        wrong(11, "if(1<2){}".repeat(249) + "@if(1<2){}y=1;");
        CHECK.wrong(2, "fun f(a,@a){y=1;}fun m(){if(1<2){f(1,2);}return 1;}");
    }

    /** "a function is looked at for each call of it that the program comes to have so". */
    private static void onceForEachCall() {
        CHECK.wrong(10, "fun f(a){@var b;}fun m(){f(1);" + vars(10) + "f(1);var x;f(1);}");
        CHECK.wrong(13, "fun f(){@var b[1];}fun m(){f();" + arrays(6) + "f();}");
        CHECK.right("fun f(a){var b;}fun m(){f(1);" + vars(10) + "f(1);}");
        CHECK.right("fun f(){x=1;}fun f(){}fun m(){f();}");
    }

    /** "and one that is never called not at all but for its tokens". */
    private static void neverCalled() {
        CHECK.right("fun f(a,a){x=1;a[0]=1;i();f(1);return 1;var t[0];t=any(2,1);}fun m(){}");
        CHECK.right("fun f(){x=1;}fun g(){f();}fun m(){}");
        CHECK.right("fun f(" + listed("p~", 13) + "){" + vars(13) + arrays(7) + "if(1<2){}".repeat(250) + "}fun m(){}");
        CHECK.wrong(1, "fun f(){@x=1;}fun g(){f();}fun m(){if(2<1){g();}}");
        CHECK.fault("fun f(){x=@;}fun m(){}");
        CHECK.fault("fun f(){x=" + "(".repeat(59) + "@1" + ")".repeat(59) + ";}fun m(){}");
        CHECK.fault("fun f(){x=@2147483648;}fun m(){}");
    }
}
