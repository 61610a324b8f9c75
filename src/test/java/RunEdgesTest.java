/** What the Terms say of VALUES and A RUN, and promises 9 to 12, at their edges. */
public final class RunEdgesTest {
    private static final int LEAST = Integer.MIN_VALUE;
    private static final int GREATEST = Integer.MAX_VALUE;
    private static final int[] VALUES = {
        LEAST, LEAST + 1, LEAST / 2 - 1, LEAST / 2, -65536, -46341, -46340, -3, -2, -1, 0,
        1, 2, 3, 46340, 46341, 65535, 65536, GREATEST / 2, GREATEST / 2 + 1, GREATEST - 1, GREATEST,
    };
    private static final Check CHECK = new Check();

    public static void main(String[] args) {
        resultsThatAreNoInts();
        negatedResults();
        resultsOnTheWay();
        trapsInEachStatement();
        placesThatAnArrayHasNot();
        whenAPlaceIsLookedAt();
        inputsThatThereAreNoMore();
        inputsBetweenLimits();
        conditionsThatMatter();
        relationsWhereverTheyStand();
        assertsThatDoNotHold();
        beginningEachTime();
        stepsUpToTheEnd();
        twoThousandSteps();
        trapsWithTheLastStep();
        stepsWithoutAnEnd();
        stepsOfEmptyBlocks();
        whereARunStands();
        inputsTaken();
        allSlots();
        allPlaces();
        slotsThatAreGone();
        beforeTheStatementWithATrap();
        returnsWithAName();
        returnsWithoutAName();
        slotsOfOneFunction();
        CHECK.close();
    }

    private static void stands(String name, ProgramRuns x, int point, int steps, int inputs) {
        CHECK.due("ran(0): " + name, x.ran(0), point);
        CHECK.due("ran(1): " + name, x.ran(1), steps);
        CHECK.due("ran(2): " + name, x.ran(2), inputs);
    }

    /** Of a + b and the like: a long holds all that there can be. */
    private static long reckoned(char sign, long a, long b) {
        switch (sign) {
            case '+':
                return a + b;
            case '-':
                return a - b;
            case '*':
                return a * b;
            case '/':
                return a / b;
            default:
                return a - a / b * b;
        }
    }

    /** "A result that is no int is TRAP 1 (so -2^31 / -1 ..)", "/ and % by 0 are trap 2". */
    private static void resultsThatAreNoInts() {
        for (char sign : "+-*/%".toCharArray()) {
            for (int a : VALUES) {
                for (int b : VALUES) {
                    ProgramRuns x = CHECK.program("fun m(){var x=any" + sign + "any;x=0;}", a, b);
                    String name = a + " " + sign + " " + b;
                    boolean byZero = b == 0 && (sign == '/' || sign == '%');
                    long due = byZero ? 0 : reckoned(sign, a, b);
                    boolean isInt = due >= LEAST && due <= GREATEST;
                    CHECK.due(name, x.run(1), byZero ? 2 : isInt ? 16 : 1);
                    CHECK.due("value of " + name, x.value(0), isInt ? due : 0);
                    stands(name, x, isInt && !byZero ? 1 : 0, 1, 2);
                }
            }
        }
    }

    /** "(so .. - -2^31, too)". */
    private static void negatedResults() {
        for (int a : VALUES) {
            ProgramRuns x = CHECK.program("fun m(){var x=-any;x=0;}", a);
            CHECK.due("- " + a, x.run(1), a == LEAST ? 1 : 16);
            CHECK.due("value of - " + a, x.value(0), a == LEAST ? 0 : -a);
            ProgramRuns twice = CHECK.program("fun m(){var x=--any;x=0;}", a);
            CHECK.due("- - " + a, twice.run(1), a == LEAST ? 1 : 16);
            CHECK.due("value of - - " + a, twice.value(0), a == LEAST ? 0 : a);
        }
    }

    /** Each a + - * / % "when its parts were" reckoned: what comes of it later can't help. */
    private static void resultsOnTheWay() {
        trap(1, "x=2147483647+1-1;", 0);
        trap(1, "x=-2147483647-2+2;", 0);
        trap(1, "x=65536*32768/2;", 0);
        trap(0, "x=2147483647+(1-1);", 0);
        trap(0, "x=2147483647-1+1;", 0);
        trap(0, "x=0*(1-2147483647-1);", 0);
        trap(1, "x=0*(0-2147483647-2);", 0);
        trap(2, "x=2147483647+1/0;", 0);
        trap(1, "x=2147483647+1+1/0;", 0);
        trap(1, "x=(2147483647+1)/0;", 0);
        trap(2, "x=1/0+(2147483647+1);", 0);
        trap(2, "x=any/any+any;", 2, 1, 0, 3);
        trap(1, "x=any+any+any;", 2, GREATEST, 1, 3);
        trap(0, "x=any+any*any;", 3, GREATEST, -1, 3);
        trap(1, "x=any+any*any;", 3, GREATEST, 1, 3);
    }

    /** Behind var x; var t[2]; which are two steps, the trap, or the end when it is 0. */
    private static void trap(int due, String statement, int taken, int... inputs) {
        ProgramRuns x = CHECK.program("fun f(a,b){return a;}fun m(){var x;var t[2];" + statement + "}", inputs);
        CHECK.due("run of " + statement, x.run(2000), due);
        if (due != 0) {
            stands(statement, x, 2, 3, taken);
        } else {
            CHECK.due("ran(2): " + statement, x.ran(2), taken);
        }
    }

    private static void trapsInEachStatement() {
        String[] sums = {"2147483647+1", "1/0", "1%0", "t[2]", "t[-1]", "-(-2147483647-1)"};
        int[] traps = {1, 2, 2, 4, 4, 1};
        String[] statements = {
            "x=~;", "var y=~;", "t[~]=1;", "t[0]=~;", "x=t[~];", "x=-(1+~);", "if(~<1){}", "if(1<~){}else{}", "while(~==1){}",
            "assert(1>~);", "f(~,1);", "f(1,~);", "x=f(~,1);", "if(!1<~){}", "if([1<2&&~<1]){}", "if(2<1||~<1){}",
        };
        for (int i = 0; i < sums.length; i++) {
            for (String statement : statements) {
                trap(traps[i], statement.replace("~", sums[i]), 0);
            }
        }
        trap(0, "if(1<2||1/0<1){}", 0);
        trap(0, "while(2<1&&1/0<1){}", 0);
        ProgramRuns x = CHECK.program("fun f(a){return 1/a;}fun m(){var x=5;x=f(0);}");
        CHECK.due("a trap of a return", x.run(2000), 2);
        stands("a trap of a return", x, 2, 3, 0);
        CHECK.due("its NAME keeps its value", x.value(0), 5);
        CHECK.due("the parameter is there", x.point(2, 2), 2);
    }

    /** "a place that an array has not is trap 4": in front of the first, behind the last one. */
    private static void placesThatAnArrayHasNot() {
        for (int size : new int[] {1, 2, 63, 64}) {
            for (int i : new int[] {LEAST, -64, -1, 0, 1, 2, size - 1, size, size + 1, 63, 64, 65, 128, GREATEST}) {
                boolean there = i >= 0 && i < size;
                String name = "place " + i + " of " + size;
                ProgramRuns x = CHECK.program("fun m(){var s[64];var t[" + size + "];var u[64];t[any]=7;s[0]=0;}", i);
                CHECK.due(name + " is set", x.run(4), there ? 16 : 4);
                CHECK.due(name, x.place(1, i), there ? 7 : 0);
                stands(name, x, there ? 4 : 3, 4, 1);
                ProgramRuns y = CHECK.program("fun m(){var s[64];var t[" + size + "];var u[64];var x=t[any];x=0;}", i);
                CHECK.due(name + " is taken", y.run(4), there ? 16 : 4);
                stands(name, y, there ? 4 : 3, 4, 1);
            }
        }
    }

    /** "(for NAME [ SUM ] = SUM it is looked at behind the first SUM)". */
    private static void whenAPlaceIsLookedAt() {
        trap(4, "t[any]=any;", 1, 2, 5);
        trap(4, "t[any]=1/any;", 1, -1, 0);
        trap(2, "t[any]=1/any;", 2, 1, 0);
        trap(0, "t[any]=any;", 2, 1, 5);
        trap(4, "x=t[any]+any;", 1, 2, 5);
        trap(2, "t[any/0]=any;", 1, 2, 5);
        trap(4, "t[t[any]+any]=any;", 1, 2, 0, 0);
        trap(4, "t[t[any]+any]=any;", 2, 1, 2, 0);
    }

    /** "any is the next of the INPUTS, 0 when there are no more". */
    private static void inputsThatThereAreNoMore() {
        for (int count = 0; count <= 4; count++) {
            ProgramRuns x = CHECK.program("fun m(){var a=any;var b=any;var c=any+any;c=0;}");
            for (int i = 0; i < count; i++) {
                x.input(10 + i);
            }
            CHECK.due("with inputs " + count, x.run(3), 16);
            CHECK.due("a with inputs " + count, x.value(0), count > 0 ? 10 : 0);
            CHECK.due("b with inputs " + count, x.value(1), count > 1 ? 11 : 0);
            CHECK.due("c with inputs " + count, x.value(2), (count > 2 ? 12 : 0) + (count > 3 ? 13 : 0));
            CHECK.due("taken with inputs " + count, x.ran(2), count);
        }
    }

    /** "any ( a , b ) is that, or a when it is not a .. b". */
    private static void inputsBetweenLimits() {
        int[][] limits = {{-5, -2}, {-5, 5}, {0, 0}, {1, 1}, {1, 9}, {0, 9}, {-9, 0}, {-2147483647, GREATEST}, {GREATEST, GREATEST}};
        for (int[] limit : limits) {
            String text = "fun m(){var x=any(" + limit[0] + "," + limit[1] + ");x=0;}";
            ProgramRuns none = CHECK.program(text);
            none.run(1);
            CHECK.due("no input: " + text, none.value(0), limit[0] <= 0 && limit[1] >= 0 ? 0 : limit[0]);
            CHECK.due("none taken: " + text, none.ran(2), 0);
            for (int input : new int[] {LEAST, limit[0] - 1, limit[0], limit[0] + 1, 0, limit[1] - 1, limit[1], limit[1] + 1, GREATEST}) {
                ProgramRuns x = CHECK.program(text, input);
                x.run(1);
                boolean between = input >= limit[0] && input <= limit[1];
                CHECK.due(input + ": " + text, x.value(0), between ? input : limit[0]);
                CHECK.due("taken, too: " + text, x.ran(2), 1);
            }
        }
    }

    /** "&& and || look at what is behind only when that matters": each any that is looked at counts. */
    private static void conditionsThatMatter() {
        condition("any==1&&any==1", "11:1:2", "10:0:2", "01:0:1", "00:0:1");
        condition("any==1||any==1", "11:1:1", "10:1:1", "01:1:2", "00:0:2");
        condition("any==1&&any==1&&any==1", "111:1:3", "110:0:3", "101:0:2", "011:0:1");
        condition("any==1||any==1||any==1", "100:1:1", "010:1:2", "001:1:3", "000:0:3");
        condition("any==1||any==1&&any==1", "100:1:1", "000:0:2", "011:1:3", "010:0:3");
        condition("any==1&&any==1||any==1", "11:1:2", "101:1:3", "100:0:3", "01:1:2", "00:0:2");
        condition("[any==1||any==1]&&any==1", "11:1:2", "10:0:2", "011:1:3", "010:0:3", "00:0:2");
        condition("any==1&&[any==1||any==1]", "0:0:1", "11:1:2", "101:1:3", "100:0:3");
        condition("!any==1&&any==1", "1:0:1", "01:1:2", "00:0:2");
        condition("!any==1||!any==1", "0:1:1", "10:1:2", "11:0:2");
        condition("![any==1&&any==1]||any==1", "0:1:1", "10:1:2", "111:1:3", "110:0:3");
        condition("!!any==1", "1:1:1", "0:0:1");
    }

    /** Each case: the inputs, whether the COND holds, and how many inputs it takes. */
    private static void condition(String cond, String... cases) {
        for (String one : cases) {
            String[] parts = one.split(":");
            ProgramRuns x = CHECK.program("fun m(){assert(" + cond + ");}");
            for (char input : (parts[0] + "22").toCharArray()) {
                x.input(input - '0');
            }
            CHECK.due(cond + " with " + parts[0], x.run(1), parts[1].equals("1") ? 0 : 8);
            CHECK.due(cond + " takes of " + parts[0], x.ran(2), Integer.parseInt(parts[2]));
        }
    }

    /** A RELATION of less, equal and more, as the whole COND and as a part of it. */
    private static void relationsWhereverTheyStand() {
        String[] relations = {"<", "<=", ">", ">=", "==", "!="};
        String[] same = {"~", "[~]", "!!~", "~&&1<2", "1<2&&~", "~||2<1", "2<1||~", "[2<1||~]&&[1<2&&~]", "~&&~&&~", "~||~||~"};
        String[] other = {"!~", "![~]", "!~&&1<2", "1<2&&!~", "!~||2<1", "2<1||!!!~", "![~||2<1]", "![1<2&&~]"};
        int[][] pairs = {{LEAST, GREATEST}, {-1, 0}, {4, 5}, {LEAST, LEAST}, {0, 0}, {GREATEST, GREATEST}, {5, 4}, {0, -1}, {GREATEST, LEAST}};
        for (int[] pair : pairs) {
            int order = Integer.compare(pair[0], pair[1]);
            boolean[] due = {order < 0, order <= 0, order > 0, order >= 0, order == 0, order != 0};
            for (int i = 0; i < relations.length; i++) {
                for (String cond : same) {
                    holds(due[i], cond.replace("~", "a" + relations[i] + "b"), pair);
                }
                for (String cond : other) {
                    holds(!due[i], cond.replace("~", "a" + relations[i] + "b"), pair);
                }
            }
        }
    }

    private static void holds(boolean due, String cond, int[] inputs) {
        ProgramRuns x = CHECK.program("fun m(){var a=any;var b=any;if(" + cond + "){a=0;}else{a=0;}}", inputs);
        String name = cond + " of " + inputs[0] + " and " + inputs[1];
        x.run(3);
        CHECK.due("if, " + name, x.ran(0), due ? 3 : 4);
        ProgramRuns y = CHECK.program("fun m(){var a=any;var b=any;while(" + cond + "){a=0;}}", inputs);
        y.run(3);
        CHECK.due("while, " + name, y.ran(0), due ? 3 : 4);
        ProgramRuns z = CHECK.program("fun m(){var a=any;var b=any;assert(" + cond + ");}", inputs);
        CHECK.due("assert, " + name, z.run(3), due ? 0 : 8);
    }

    /** "An assert that does not hold is trap 8." */
    private static void assertsThatDoNotHold() {
        trap(0, "assert(x==0);", 0);
        trap(8, "assert(x!=0);", 0);
        trap(8, "assert(x<0);", 0);
        trap(0, "assert(x<=0);", 0);
        trap(0, "assert(x>=0);", 0);
        trap(8, "assert(x>0);", 0);
        trap(8, "assert(any==1);", 1, 2);
        ProgramRuns x = CHECK.program("fun f(a){assert(a<3);return a;}fun m(){var i;while(0<1){i=i+1;i=f(i);}}");
        CHECK.due("an assert in a function", x.run(2000), 8);
        CHECK.due("its point", x.ran(0), 4);
        CHECK.due("the value before it", x.value(1), 3);
    }

    /** "A var begins with 0, or its SUM; all places of an array with 0, each time." */
    private static void beginningEachTime() {
        ProgramRuns x = CHECK.program("fun f(a){var b;var u[2];b=b+a;u[0]=u[0]+b;u[1]=u[1]+b;return u[0]+u[1];}"
                + "fun m(){var i;var s;var r;while(i<3){var n;var k=i;var t[2];n=n+1;k=k+1;t[1]=t[1]+n;s=s*100+t[1]*10+k;"
                + "r=f(1);s=s*10+r;i=i+1;}assert(s==112122132);}");
        CHECK.due("each time anew", x.run(2000), 0);
        ProgramRuns y = CHECK.program("fun m(){var t[3];t[2]=5;assert(t[2]==5&&t[0]==0&&t[1]==0);}");
        CHECK.due("one place is set", y.run(2000), 0);
        CHECK.due("a run begins anew, too", y.run(1), 16);
        CHECK.due("its place", y.place(0, 2), 0);
    }

    /** "0 it came to the end (with the last of these steps, too) .. 16 neither". */
    private static void stepsUpToTheEnd() {
        for (int count = 0; count <= 12; count++) {
            StringBuilder text = new StringBuilder("fun m(){");
            for (int i = 0; i < count; i++) {
                text.append("var v").append(i).append(';');
            }
            ProgramRuns x = CHECK.program(text + "}");
            for (int steps = 0; steps <= 14; steps++) {
                CHECK.due("run(" + steps + ") of statements " + count, x.run(steps), steps >= count ? 0 : 16);
                stands("run(" + steps + ") of statements " + count, x, Math.min(steps, count), Math.min(steps, count), 0);
            }
        }
    }

    /** The while takes 2 * turns + 1 steps, and the var one. */
    private static String looping(int turns, String behind) {
        return "fun m(){var x;while(x<" + turns + "){x=x+1;}" + behind + "}";
    }

    private static void twoThousandSteps() {
        ProgramRuns exactly = CHECK.program(looping(999, ""));
        CHECK.due("2000 of 2000 steps", exactly.run(2000), 0);
        stands("2000 of 2000 steps", exactly, 3, 2000, 0);
        CHECK.due("1999 of 2000 steps", exactly.run(1999), 16);
        stands("1999 of 2000 steps", exactly, 1, 1999, 0);
        CHECK.due("2001 steps are refused", exactly.run(2001), -1);
        stands("the run before stays", exactly, 1, 1999, 0);
        CHECK.due("its value, too", exactly.value(0), 999);
        ProgramRuns less = CHECK.program(looping(998, "x=0;"));
        CHECK.due("2000 of 1999 steps", less.run(2000), 0);
        stands("2000 of 1999 steps", less, 4, 1999, 0);
        ProgramRuns more = CHECK.program(looping(999, "x=0;"));
        CHECK.due("2000 of 2001 steps", more.run(2000), 16);
        stands("2000 of 2001 steps", more, 3, 2000, 0);
    }

    private static void trapsWithTheLastStep() {
        ProgramRuns last = CHECK.program(looping(998, "x=0;assert(0<x);"));
        CHECK.due("the 2000th step is a trap", last.run(2000), 8);
        stands("the 2000th step is a trap", last, 4, 2000, 0);
        CHECK.due("without it", last.run(1999), 16);
        stands("without it", last, 4, 1999, 0);
        ProgramRuns behind = CHECK.program(looping(999, "assert(0<0);"));
        CHECK.due("the 2001st step would be one", behind.run(2000), 16);
        ProgramRuns first = CHECK.program("fun m(){assert(0<0);}");
        CHECK.due("the first step is a trap", first.run(1), 8);
        stands("the first step is a trap", first, 0, 1, 0);
        CHECK.due("no step, no trap", first.run(0), 16);
        stands("no step, no trap", first, 0, 0, 0);
    }

    private static void stepsWithoutAnEnd() {
        ProgramRuns x = CHECK.program("fun m(){while(0<1){}}");
        for (int steps : new int[] {0, 1, 2, 1999, 2000}) {
            CHECK.due("endless: run(" + steps + ")", x.run(steps), 16);
            stands("endless: run(" + steps + ")", x, 0, steps, 0);
        }
        ProgramRuns y = CHECK.program("fun f(){}fun m(){while(0<1){f();if(0<1){}else{}}}");
        CHECK.due("endless with a call", y.run(2000), 16);
        stands("endless with a call", y, 2, 2000, 0);
    }

    /** "the end of a BLOCK is no step". */
    private static void stepsOfEmptyBlocks() {
        String[] statements = {"if(1<2){}", "if(2<1){}", "if(1<2){}else{}", "if(2<1){}else{}", "while(2<1){}", "f();", "x=g();",
            "if(1<2){f();}", "if(2<1){}else{f();}", "if(1<2){if(1<2){if(1<2){}}}"};
        int[] steps = {1, 1, 1, 1, 1, 1, 2, 2, 2, 3};
        for (int i = 0; i < statements.length; i++) {
            ProgramRuns x = CHECK.program("fun f(){}fun g(){return 7;}fun m(){var x;" + statements[i] + "x=x;}");
            CHECK.due(statements[i], x.run(1 + steps[i]), 16);
            stands(statements[i], x, x.points() - 2, 1 + steps[i], 0);
            CHECK.due("one step less: " + statements[i], x.run(steps[i]), 16);
            CHECK.due("is not behind it: " + statements[i], x.ran(0) < x.points() - 2 ? 1 : 0, 1);
        }
    }

    /** "the point that it came to last", step by step. */
    private static void whereARunStands() {
        ProgramRuns x = CHECK.program("fun f(a){if(a<1){a=1;}else{a=2;}}fun m(){var i;while(i<2){f(i);i=i+1;}i=9;}");
        int[] points = {0, 1, 2, 3, 4, 6, 1, 2, 3, 5, 6, 1, 7, 8, 8};
        for (int steps = 0; steps < points.length; steps++) {
            CHECK.due("walk: run(" + steps + ")", x.run(steps), points[steps] == 8 ? 0 : 16);
            stands("walk: run(" + steps + ")", x, points[steps], Math.min(steps, 13), 0);
        }
    }

    /** "how many inputs were taken (those that there were; those of a statement with a trap, too)". */
    private static void inputsTaken() {
        ProgramRuns x = CHECK.program("fun m(){var x;while(0<1){x=any;}}");
        for (int i = 1; i <= 400; i++) {
            x.input(i);
        }
        for (int taken : new int[] {0, 1, 399, 400, 401}) {
            CHECK.due("taking " + taken, x.run(1 + 2 * taken), 16);
            CHECK.due("taken of " + taken, x.ran(2), Math.min(taken, 400));
            CHECK.due("value of " + taken, x.value(0), taken > 400 ? 0 : taken);
        }
        trap(2, "x=any+any/any+any;", 3, 1, 2, 0, 4);
        trap(2, "x=any+any/any+any;", 2, 1, 2);
        trap(2, "x=any+any/any+any;", 0);
        trap(8, "assert(any+any==0);", 2, 1, 2, 3);
        trap(2, "f(any,any/0);", 2, 1, 2, 3);
    }

    /** "0 when there is none such": slots in front of the first and behind the last one. */
    private static void allSlots() {
        ProgramRuns x = CHECK.program("fun m(){" + numbered(12) + "v0=0;}");
        for (int steps = 0; steps <= 13; steps++) {
            x.run(steps);
            for (int slot = -2; slot <= 14; slot++) {
                boolean there = steps < 13 && slot >= 0 && slot < steps;
                CHECK.due("value(" + slot + ") behind steps " + steps, x.value(slot), there ? 100 + slot : 0);
            }
            for (int slot : new int[] {LEAST, LEAST + 1, GREATEST - 1, GREATEST}) {
                CHECK.due("value(" + slot + ") behind steps " + steps, x.value(slot), 0);
            }
        }
    }

    /** Of an object for each array, as no object may be asked as often as all of them need. */
    private static void allPlaces() {
        String text = "fun m(){var i;var a[64];var b[64];var c[64];var d[64];var e[64];var f[63];"
                + "while(i<63){a[i]=100+i;b[i]=200+i;c[i]=300+i;d[i]=400+i;e[i]=500+i;f[i]=600+i;i=i+1;}"
                + "a[i]=163;b[i]=263;c[i]=363;d[i]=463;e[i]=563;i=0;}";
        int steps = 7 + 63 * 8 + 1 + 5;
        for (int a = -2; a <= 7; a++) {
            ProgramRuns x = CHECK.program(text);
            CHECK.due("all places", x.run(steps), 16);
            for (int i = -2; i <= 66; i++) {
                boolean there = a >= 0 && a < 6 && i >= 0 && i < (a == 5 ? 63 : 64);
                CHECK.due("place(" + a + ", " + i + ")", x.place(a, i), there ? 100 * (a + 1) + i : 0);
            }
            for (int arrays = 0; arrays <= 6; arrays++) {
                x.run(1 + arrays);
                CHECK.due("arrays " + arrays + ": place(" + a + ", 1)", x.place(a, 1), 0);
            }
            CHECK.due("at the end", x.run(2000), 0);
            CHECK.due("at the end: place(" + a + ", 1)", x.place(a, 1), 0);
            CHECK.due("at the end: value(" + a + ")", x.value(a), 0);
        }
        ProgramRuns y = CHECK.program(text);
        CHECK.due("all places", y.run(steps), 16);
        // 64 * 2^26 is 0 as an int.
        for (int far : new int[] {LEAST, LEAST + 1, GREATEST - 1, GREATEST, 1 << 26, -(1 << 26), (1 << 26) + 1}) {
            CHECK.due("place(" + far + ", 0)", y.place(far, 0), 0);
            CHECK.due("place(0, " + far + ")", y.place(0, far), 0);
            CHECK.due("place(" + far + ", " + far + ")", y.place(far, far), 0);
        }
    }

    /** "Those of a BLOCK that ends are gone." */
    private static void slotsThatAreGone() {
        ProgramRuns x = CHECK.program("fun f(a){var b=8;var u[1];u[0]=9;return a;}"
                + "fun m(){var x=1;var t[1];t[0]=2;if(1<2){var y=3;var u[1];u[0]=4;}x=5;f(6);x=7;}");
        x.run(6);
        CHECK.due("in the BLOCK: value(0)", x.value(0), 1);
        CHECK.due("in the BLOCK: value(1)", x.value(1), 3);
        x.run(7);
        CHECK.due("behind the BLOCK: value(0)", x.value(0), 1);
        CHECK.due("behind the BLOCK: value(1)", x.value(1), 0);
        CHECK.due("behind the BLOCK: place(0, 0)", x.place(0, 0), 2);
        CHECK.due("behind the BLOCK: place(1, 0)", x.place(1, 0), 0);
        x.run(12);
        CHECK.due("in the function: value(1)", x.value(1), 6);
        CHECK.due("in the function: value(2)", x.value(2), 8);
        CHECK.due("in the function: place(1, 0)", x.place(1, 0), 9);
        x.run(13);
        CHECK.due("behind the function: value(0)", x.value(0), 5);
        CHECK.due("behind the function: value(1)", x.value(1), 0);
        CHECK.due("behind the function: place(1, 0)", x.place(1, 0), 0);
    }

    /** "(for a trap: before its statement)". */
    private static void beforeTheStatementWithATrap() {
        ProgramRuns set = CHECK.program("fun m(){var x=3;x=x+1/0;}");
        set.run(2);
        CHECK.due("NAME =", set.value(0), 3);
        ProgramRuns place = CHECK.program("fun m(){var t[2];t[1]=3;t[1]=t[1]+t[2];}");
        place.run(3);
        CHECK.due("NAME [ ] =", place.place(0, 1), 3);
        ProgramRuns var = CHECK.program("fun m(){if(1<2){var y=7;}var x=1/0;}");
        var.run(3);
        CHECK.due("var", var.value(0), 0);
        ProgramRuns call = CHECK.program("fun f(a,b){}fun m(){var x=3;f(5,1/0);}");
        call.run(2);
        CHECK.due("a call: the variable", call.value(0), 3);
        CHECK.due("a call: its first parameter", call.value(1), 0);
        ProgramRuns held = CHECK.program("fun m(){var x=3;assert(x<3);}");
        held.run(2);
        CHECK.due("assert", held.value(0), 3);
        ProgramRuns returned = CHECK.program("fun f(a){var b=a;return b/0;}fun m(){var x=3;x=f(4);}");
        returned.run(4);
        CHECK.due("return: the variable", returned.value(0), 3);
        CHECK.due("return: the parameter", returned.value(1), 4);
        CHECK.due("return: its function's variable", returned.value(2), 4);
    }

    /** "what returns goes to the NAME in front, if there is one": to its slot, and to no other. */
    private static void returnsWithAName() {
        for (int target = 0; target < 12; target++) {
            ProgramRuns x = CHECK.program("fun f(){return 77;}fun m(){" + numbered(12) + "v" + target + "=f();v0=0;}");
            CHECK.due("to v" + target, x.run(14), 16);
            for (int slot = 0; slot < 12; slot++) {
                CHECK.due("to v" + target + ": value(" + slot + ")", x.value(slot), slot == target ? 77 : 100 + slot);
            }
        }
    }

    /** "(without one it goes nowhere; the return is a point and a step all the same)". */
    private static void returnsWithoutAName() {
        for (int count = 0; count <= 12; count++) {
            ProgramRuns x = CHECK.program("fun f(){return 77;}fun m(){" + numbered(count) + "f();if(1<2){}}");
            CHECK.due("its point", x.point(count + 1, 0), 8);
            CHECK.due("a call without a NAME", x.run(count + 2), 16);
            stands("it is a step", x, count + 2, count + 2, 0);
            for (int slot = 0; slot < 12; slot++) {
                CHECK.due("nowhere: value(" + slot + ")", x.value(slot), slot < count ? 100 + slot : 0);
            }
        }
    }

    private static String numbered(int count) {
        StringBuilder text = new StringBuilder();
        for (int i = 0; i < count; i++) {
            text.append("var v").append(i).append('=').append(100 + i).append(';');
        }
        return text.toString();
    }

    /** Slots of a function's BLOCKs, wherever it is called: with other numbers and other arrays there. */
    private static void slotsOfOneFunction() {
        StringBuilder text = new StringBuilder("fun g(p){var a=p;var s[1];if(0<1){var b=a+1;var t[2];t[0]=b;"
                + "while(b<p+3){var c=b;b=c+1;t[1]=b;}s[0]=t[1]+t[0];}else{}return s[0];}fun m(){var r;");
        for (int numbers = 0; numbers <= 7; numbers += 3) {
            for (int arrays = 0; arrays <= 4; arrays += 2) {
                text.append("if(0<1){").append(numbered(numbers));
                for (int i = 0; i < arrays; i++) {
                    text.append("var t").append(i).append("[3];t").append(i).append("[2]=9;");
                }
                int p = 10 * numbers + arrays;
                text.append("r=g(").append(p).append(");assert(r==").append(2 * p + 4);
                text.append(numbers > 0 ? "&&v" + (numbers - 1) + "==" + (99 + numbers) : "");
                text.append(arrays > 0 ? "&&t" + (arrays - 1) + "[2]==9" : "").append(");}");
            }
        }
        ProgramRuns x = CHECK.program(text + "}");
        CHECK.due("one function in many places", x.run(2000), 0);
    }
}
