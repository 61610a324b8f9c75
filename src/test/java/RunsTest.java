/** Promises 9 to 12: runs, their traps, and what can be seen where they stand. */
public final class RunsTest {
    private static final Check CHECK = new Check();

    public static void main(String[] args) {
        arithmetic();
        noInts();
        divisions();
        places();
        asserts();
        relations();
        shortcuts();
        inputsOfAny();
        inputsWithTraps();
        fromLeftToRight();
        steps();
        branches();
        loops();
        callsAndReturns();
        slots();
        slotsOfOneFunction();
        arraysBeginAnew();
        beforeATrap();
        waitingValues();
        CHECK.close();
    }

    /** What x becomes in one step, the run being at the second point then. */
    private static void becomes(String sum, int due, int... inputs) {
        ProgramRuns x = CHECK.program("fun m(){var x=" + sum + ";x=0;}", inputs);
        CHECK.due("run of " + sum, x.run(1), 16);
        CHECK.due("value of " + sum, x.value(0), due);
    }

    /** The trap of a second statement. */
    private static void traps(String first, String statement, int trap, int... inputs) {
        ProgramRuns x = CHECK.program("fun m(){" + first + statement + "}", inputs);
        CHECK.due("run of " + statement, x.run(2), trap);
        CHECK.due("point of " + statement, x.ran(0), 1);
        CHECK.due("steps of " + statement, x.ran(1), 2);
    }

    private static void holds(String cond, boolean due) {
        ProgramRuns x = CHECK.program("fun m(){var t[2];assert(" + cond + ");}");
        CHECK.due("run of " + cond, x.run(2), due ? 0 : 8);
    }

    private static void arithmetic() {
        becomes("1+2*3", 7);
        becomes("(1+2)*3", 9);
        becomes("10-3-4", 3);
        becomes("10-(3-4)", 11);
        becomes("100/7/2", 7);
        becomes("100/(7/2)", 33);
        becomes("2*7%4*3", 6);
        becomes("7-2*3+1", 2);
        becomes("--5", 5);
        becomes("3--5", 8);
        becomes("-3*-5", 15);
        becomes("-(2+3)%3", -2);
        becomes("2147483647", 2147483647);
        becomes("-2147483647-1", Integer.MIN_VALUE);
        becomes("46340*46340", 46340 * 46340);
        becomes("-32768*65536", Integer.MIN_VALUE);
        becomes("2147483647-2147483647*1", 0);
    }

    private static void noInts() {
        String least = "var x=-2147483647-1;";
        traps("var x=2147483647;", "x=x+1;", 1);
        traps(least, "x=x-1;", 1);
        traps(least, "x=-x;", 1);
        traps(least, "x=x/-1;", 1);
        traps(least, "x=x*-1;", 1);
        traps("var x=65536;", "x=x*32768;", 1);
        traps("var x=2147483647;", "x=x+1-1;", 1);
        traps("var x=2147483647;", "x=x*x*0;", 1);
        traps("var x=2147483647;", "assert(x+x<0);", 1);
        traps("var x=2147483647;", "var y=x+1;", 1);
        traps("var x=2147483647;", "if(x+1<0){}", 1);
        traps("var x=2147483647;", "while(x+1<0){}", 1);
    }

    private static void divisions() {
        becomes("7/2", 3);
        becomes("-7/2", -3);
        becomes("7/-2", -3);
        becomes("-7/-2", 3);
        becomes("7%3", 1);
        becomes("-7%3", -1);
        becomes("7%-3", 1);
        becomes("-7%-3", -1);
        becomes("(-2147483647-1)%-1", 0);
        becomes("(-2147483647-1)/1", Integer.MIN_VALUE);
        becomes("(-2147483647-1)/2147483647", -1);
        becomes("0/5+0%5", 0);
        traps("var x;", "x=1/x;", 2);
        traps("var x;", "x=1%x;", 2);
        traps("var x;", "x=0/0;", 2);
        traps("var x;", "x=(-2147483647-1)/x;", 2);
        traps("var x;", "assert(1<1/x);", 2);
    }

    private static void places() {
        traps("var t[3];", "t[3]=1;", 4);
        traps("var t[3];", "t[-1]=1;", 4);
        traps("var t[3];", "t[2147483647]=1;", 4);
        traps("var t[3];", "var x=t[3];", 4);
        traps("var t[3];", "var x=t[-2147483647-1];", 4);
        traps("var t[64];", "t[64]=1;", 4);
        traps("var t[1];", "assert(t[1]==0);", 4);
        ProgramRuns x = CHECK.program("fun m(){var t[3];var u[2];t[2]=7;u[t[2]-6]=t[2]+1;t[0]=u[1]*t[2];t[0]=t[0];}");
        CHECK.due("places: run", x.run(5), 16);
        CHECK.due("place(0, 0)", x.place(0, 0), 56);
        CHECK.due("place(0, 1)", x.place(0, 1), 0);
        CHECK.due("place(0, 2)", x.place(0, 2), 7);
        CHECK.due("place(0, 3)", x.place(0, 3), 0);
        CHECK.due("place(1, 1)", x.place(1, 1), 8);
        CHECK.due("place(1, 2)", x.place(1, 2), 0);
        CHECK.due("place(2, 0)", x.place(2, 0), 0);
        CHECK.due("value(0)", x.value(0), 0);
        CHECK.due("places: to the end", x.run(6), 0);
        CHECK.due("places are gone", x.place(0, 2), 0);
        for (String statement : new String[] {"u[2]=1;", "t[u[2]]=1;", "t[0]=u[2]+t[2];"}) {
            ProgramRuns two = CHECK.program("fun m(){var t[3];var u[2];t[2]=1;u[1]=1;" + statement + "}");
            CHECK.due("the size of the other array: " + statement, two.run(9), 4);
            CHECK.due("its point: " + statement, two.ran(0), 4);
        }
        ProgramRuns last = CHECK.program("fun m(){var t[64];t[63]=5;t[0]=1;}");
        last.run(2);
        CHECK.due("place(0, 63)", last.place(0, 63), 5);
        CHECK.due("place(0, 64)", last.place(0, 64), 0);
    }

    private static void asserts() {
        traps("var x;", "assert(x==1);", 8);
        traps("var x;", "assert(!x==0);", 8);
        ProgramRuns x = CHECK.program("fun m(){var x=3;assert(x==3);x=4;}");
        CHECK.due("assert holds", x.run(2), 16);
        CHECK.due("and goes on", x.ran(0), 2);
    }

    private static void relations() {
        String[] signs = {"<", "<=", ">", ">=", "==", "!="};
        boolean[][] due = {
            {true, true, false, false, false, true},
            {false, true, false, true, true, false},
            {false, false, true, true, false, true},
        };
        String[][] pairs = {
            {"1", "2"}, {"2", "2"}, {"2", "1"}, {"-2147483647-1", "2147483647"},
            {"-2147483647-1", "-2147483647-1"}, {"2147483647", "-2147483647-1"},
        };
        for (int i = 0; i < pairs.length; i++) {
            for (int sign = 0; sign < signs.length; sign++) {
                holds(pairs[i][0] + signs[sign] + pairs[i][1], due[i % 3][sign]);
            }
        }
    }

    private static void shortcuts() {
        holds("1<2||1/0<1", true);
        holds("2<1&&1/0<1||1<2", true);
        holds("2<1&&[1/0<1||1<2]", false);
        holds("1<2||2<1&&2<1", true);
        holds("[1<2||2<1]&&2<1", false);
        holds("2<1||1<2&&1<2", true);
        holds("1<2&&1<2&&2<1", false);
        holds("1<2&&2<1&&t[9]<1", false);
        holds("2<1||2<1||1<2||t[9]<1", true);
        holds("![1<2&&2<1]&&!2<1", true);
        holds("!!1<2", true);
        holds("!1<2||!2<1", true);
        holds("![2<1||1<2||1/0<1]", false);
        holds("2<1&&1/0<1&&1/0<1||2<1&&1/0<1", false);
        traps("var x;", "assert(1<2&&1/x<1);", 2);
        traps("var x;", "assert(2<1||1/x<1);", 2);
        traps("var x;", "assert(1/x<1||1<2);", 2);
        ProgramRuns x = CHECK.program("fun m(){assert(any==1||any==2&&any==9);}", 1, 2, 3);
        x.run(1);
        CHECK.due("any that is not looked at", x.ran(2), 1);
        ProgramRuns y = CHECK.program("fun m(){assert(any==2&&any==2||any==2);}", 1, 2, 3);
        CHECK.due("any behind ||", y.run(1), 0);
        CHECK.due("any behind ||, taken", y.ran(2), 2);
    }

    private static void inputsOfAny() {
        becomes("any", 0);
        becomes("any", -2147483648, -2147483648);
        becomes("any-any*any", 10 - 3 * 2, 10, 3, 2);
        becomes("any+any", 4, 4);
        becomes("any(1,5)", 1);
        becomes("any(-5,-1)", -5);
        becomes("any(-5,5)", 0);
        becomes("any(1,5)", 5, 5);
        becomes("any(1,5)", 1, 1);
        becomes("any(1,5)", 1, 6);
        becomes("any(1,5)", 1, 0);
        becomes("any(-3,-3)", -3, 7);
        becomes("any(-2147483647,2147483647)", -2147483647, -2147483648);
        becomes("any(- 2 , 3)", -2, 9);
        becomes("any(1,5)*10+any", 12, 99, 2);
        ProgramRuns x = CHECK.program("fun m(){var x=any;var y=any(1,9);x=any;}", 4, 50);
        CHECK.due("inputs: run", x.run(2), 16);
        CHECK.due("inputs: x", x.value(0), 4);
        CHECK.due("inputs: y", x.value(1), 1);
        CHECK.due("inputs: taken", x.ran(2), 2);
        CHECK.due("inputs: to the end", x.run(3), 0);
        CHECK.due("inputs: those that there were", x.ran(2), 2);
        x.input(77);
        CHECK.due("inputs: from the first on", x.run(1), 16);
        CHECK.due("inputs: x again", x.value(0), 4);
        CHECK.due("inputs: taken again", x.ran(2), 1);
    }

    private static void inputsWithTraps() {
        ProgramRuns x = CHECK.program("fun m(){var t[2];t[any]=any+1/any+any;}", 1, 2, 0, 4);
        CHECK.due("trap behind three inputs", x.run(9), 2);
        CHECK.due("they are taken", x.ran(2), 3);
        ProgramRuns y = CHECK.program("fun m(){var t[2];t[any]=any;}", 2, 2);
        CHECK.due("the place is looked at behind the first SUM", y.run(9), 4);
        CHECK.due("the second one takes nothing", y.ran(2), 1);
        ProgramRuns z = CHECK.program("fun m(){assert(any==1);}", 5);
        CHECK.due("an assert", z.run(9), 8);
        CHECK.due("takes", z.ran(2), 1);
    }

    private static void fromLeftToRight() {
        traps("var t[2];", "t[1/0]=t[9];", 2);
        traps("var t[2];", "t[9]=1/0;", 4);
        traps("var t[2];", "t[0]=1/0+t[9];", 2);
        traps("var t[2];", "t[0]=t[9]+1/0;", 4);
        traps("var t[2];", "t[0]=2147483647+1*(1/0);", 2);
        traps("var t[2];", "t[0]=2147483647+1+1/0;", 1);
        traps("var t[2];", "t[0]=2147483647*2/0;", 1);
        traps("var t[2];", "t[0]=t[1/0];", 2);
        traps("var t[2];", "t[0]=t[t[2]+1/0];", 4);
        traps("var t[2];", "t[t[3]]=1/0;", 4);
        traps("var t[2];", "assert(1/0<t[9]);", 2);
        traps("var t[2];", "assert(t[9]<1/0);", 4);
        ProgramRuns x = CHECK.program("fun f(a,b){}fun m(){f(any,1/any);}", 3, 0);
        CHECK.due("SUMs of a call", x.run(5), 2);
        CHECK.due("the call's point", x.ran(0), 0);
        CHECK.due("its inputs", x.ran(2), 2);
        CHECK.due("no parameter is there", x.value(0), 0);
    }

    private static void steps() {
        ProgramRuns x = CHECK.program("fun m(){var x=1;x=2;x=3;}");
        CHECK.due("run(0)", x.run(0), 16);
        CHECK.due("run(0): point", x.ran(0), 0);
        CHECK.due("run(0): steps", x.ran(1), 0);
        CHECK.due("run(2)", x.run(2), 16);
        CHECK.due("run(2): point", x.ran(0), 2);
        CHECK.due("run(2): steps", x.ran(1), 2);
        CHECK.due("run(2): value", x.value(0), 2);
        CHECK.due("run(3), to the end with its last step", x.run(3), 0);
        CHECK.due("run(3): point", x.ran(0), 3);
        CHECK.due("run(3): value", x.value(0), 0);
        CHECK.due("run(4)", x.run(4), 0);
        CHECK.due("run(4): steps", x.ran(1), 3);
        CHECK.due("run(1), from the beginning", x.run(1), 16);
        CHECK.due("run(1): value", x.value(0), 1);
        ProgramRuns forever = CHECK.program("fun m(){var x;while(0<1){x=x+1;}}");
        CHECK.due("2000 steps", forever.run(2000), 16);
        CHECK.due("2000 steps: done", forever.ran(1), 2000);
        CHECK.due("2000 steps: value", forever.value(0), 999);
        CHECK.due("2000 steps: point", forever.ran(0), 2);
        CHECK.due("1999 steps", forever.run(1999), 16);
        CHECK.due("1999 steps: point", forever.ran(0), 1);
    }

    private static void branches() {
        String text = "fun m(){var x=any;if(x<1){x=10;}else{x=20;}if(x==10){}else{x=x+1;}if(x<0){x=0;}x=x;}";
        ProgramRuns x = CHECK.program(text, 0);
        CHECK.due("first BLOCK: run", x.run(5), 16);
        CHECK.due("first BLOCK: value", x.value(0), 10);
        CHECK.due("first BLOCK: point", x.ran(0), x.points() - 2);
        ProgramRuns y = CHECK.program(text, 1);
        CHECK.due("other BLOCK: step", y.run(2), 16);
        CHECK.due("other BLOCK: point", y.ran(0), 3);
        CHECK.due("other BLOCK: run", y.run(6), 16);
        CHECK.due("other BLOCK: value", y.value(0), 21);
        CHECK.due("other BLOCK: point behind", y.ran(0), y.points() - 2);
    }

    private static void loops() {
        ProgramRuns x = CHECK.program("fun m(){var i;var s;while(i<3){var j;while(j<i){s=s+10;j=j+1;}i=i+1;}s=s+1;}");
        CHECK.due("loops: run", x.run(2 + 4 + 3 + 3 + 6 + 9 - 3), 16);
        CHECK.due("loops: s", x.value(1), 30);
        CHECK.due("loops: i", x.value(0), 3);
        CHECK.due("loops: point", x.ran(0), 8);
        CHECK.due("loops: j is gone", x.value(2), 0);
        ProgramRuns empty = CHECK.program("fun m(){while(any<1){}}", 0, 0, 1);
        CHECK.due("an empty BLOCK: two turns", empty.run(2), 16);
        CHECK.due("an empty BLOCK: point", empty.ran(0), 0);
        CHECK.due("an empty BLOCK: run", empty.run(3), 0);
        CHECK.due("an empty BLOCK: taken", empty.ran(2), 3);
    }

    private static void callsAndReturns() {
        ProgramRuns x = CHECK.program("fun f(a,b){a=a*2;return a-b;}fun g(){}"
                + "fun m(){var a=5;var b=1;b=f(b,a);f(b,b);g();a=a;}");
        CHECK.due("call: step", x.run(3), 16);
        CHECK.due("call: point", x.ran(0), 3);
        CHECK.due("call: first parameter", x.value(2), 1);
        CHECK.due("call: second parameter", x.value(3), 5);
        x.run(4);
        CHECK.due("call: parameter changed", x.value(2), 2);
        CHECK.due("call: not the variable", x.value(1), 1);
        x.run(5);
        CHECK.due("return: goes to the NAME", x.value(1), -3);
        CHECK.due("return: point", x.ran(0), 5);
        CHECK.due("return: parameters are gone", x.value(2), 0);
        x.run(8);
        CHECK.due("without a NAME it goes nowhere", x.value(1), -3);
        CHECK.due("nor there", x.value(0), 5);
        CHECK.due("a call of an empty function", x.ran(0), 8);
        CHECK.due("one step", x.run(9), 16);
        CHECK.due("and on", x.ran(0), 9);
        ProgramRuns swap = CHECK.program("fun f(x,y){return 10*x+y;}fun m(){var x=1;var y=2;x=f(y,x);y=f(x,y);y=y;}");
        swap.run(6);
        CHECK.due("x", swap.value(0), 21);
        CHECK.due("y", swap.value(1), 212);
        ProgramRuns trap = CHECK.program("fun f(a){return 1/a;}fun m(){var x=7;x=f(0);}");
        CHECK.due("trap in a function", trap.run(9), 2);
        CHECK.due("its point", trap.ran(0), 2);
        CHECK.due("x stays", trap.value(0), 7);
    }

    private static void slots() {
        ProgramRuns x = CHECK.program("fun g(p){var t[2];t[1]=p;p=t[1]+1;return p;}"
                + "fun f(a){var u[1];var b;b=g(a+1);u[0]=b;return u[0];}"
                + "fun m(){var t[3];var r=1;t[2]=5;r=f(r);if(1<2){var q;q=f(r);r=q;}r=r;}");
        CHECK.due("slots: run", x.run(3 + 1 + 2 + 1 + 3), 16);
        int[] numbers = {1, 1, 0, 3};
        for (int i = 0; i < numbers.length; i++) {
            CHECK.due("slots: value(" + i + ")", x.value(i), numbers[i]);
        }
        CHECK.due("slots: the program's array", x.place(0, 2), 5);
        CHECK.due("slots: the outer function's", x.place(1, 0), 0);
        CHECK.due("slots: the inner function's", x.place(2, 1), 2);
        CHECK.due("slots: it has two places", x.place(2, 2), 0);
        x.run(3 + 1 + 2 + 1 + 4 + 2);
        CHECK.due("slots: r", x.value(0), 3);
        CHECK.due("slots: to the end", x.run(2000), 0);
        x.run(x.ran(1) - 1);
        CHECK.due("slots: r, the last time", x.value(0), 5);
    }

    /** The same function, where other numbers and arrays are there when it is called. */
    private static void slotsOfOneFunction() {
        ProgramRuns x = CHECK.program("fun f(a){var t[2];var b=a;if(a<9){var u[2];u[0]=b+1;t[1]=u[0];}return t[1];}"
                + "fun m(){var r;r=f(1);var s[2];s[0]=r;var q;q=f(r);if(1<2){var v[3];var w;v[2]=q;s[1]=q;w=f(v[2]);s[0]=w;}"
                + "r=r;}");
        CHECK.due("one function: to the end", x.run(2000), 0);
        int steps = x.ran(1);
        x.run(steps - 1);
        CHECK.due("one function: r", x.value(0), 2);
        CHECK.due("one function: q", x.value(1), 3);
        CHECK.due("one function: s[0]", x.place(0, 0), 4);
        CHECK.due("one function: s[1]", x.place(0, 1), 3);
        x.run(steps - 2);
        CHECK.due("one function: w", x.value(2), 4);
        CHECK.due("one function: v[2]", x.place(1, 2), 3);
        x.run(steps - 3);
        CHECK.due("one function: its own array", x.place(2, 1), 4);
        CHECK.due("one function: the array of its if is gone", x.place(3, 0), 0);
        CHECK.due("one function: b", x.value(4), 3);
    }

    private static void arraysBeginAnew() {
        ProgramRuns x = CHECK.program("fun f(){var t[2];t[0]=t[0]+1;return t[0];}"
                + "fun m(){var i;var s;while(i<3){var t[2];var c;t[1]=t[1]+1;c=c+t[1];s=s*10+c;c=f();s=s*10+c;i=i+1;}s=s;}");
        CHECK.due("anew: to the end", x.run(2000), 0);
        x.run(x.ran(1) - 1);
        CHECK.due("anew: all places begin with 0, and c", x.value(1), 111111);
        ProgramRuns y = CHECK.program("fun m(){if(1<2){var t[2];t[0]=9;t[1]=9;}var u[1];if(1<2){var v[4];v[3]=0;}}");
        CHECK.due("anew: another array in its slot", y.run(7), 16);
        CHECK.due("anew: its places", y.place(0, 0) + y.place(0, 1) + y.place(1, 0) + y.place(1, 3), 0);
    }

    private static void beforeATrap() {
        ProgramRuns x = CHECK.program("fun m(){var x=3;var t[2];t[1]=4;x=x*10+t[x];}");
        CHECK.due("trap: run", x.run(2000), 4);
        CHECK.due("trap: point", x.ran(0), 3);
        CHECK.due("trap: steps", x.ran(1), 4);
        CHECK.due("trap: value before", x.value(0), 3);
        CHECK.due("trap: place before", x.place(0, 1), 4);
        CHECK.due("trap with the last step", x.run(4), 4);
        CHECK.due("no trap yet", x.run(3), 16);
        ProgramRuns y = CHECK.program("fun m(){var x=1/any;}", 0);
        CHECK.due("trap of a var: run", y.run(1), 2);
        CHECK.due("trap of a var: it is not there", y.value(0), 0);
    }

    /** Sums as deep as they may be, with as many values waiting as there can be. */
    private static void waitingValues() {
        String deep = "1+1*t[".repeat(58) + "0" + "]".repeat(58);
        ProgramRuns x = CHECK.program("fun f(a,b,c,d,e,f,g,h,i,j,k,l){return l;}fun m(){var t[3];"
                + "t[1]=1;f(1,2,3,4,5,6,7,8,9,10,11," + deep + ");t[0]=0;}");
        CHECK.due("deep: run", x.run(3), 16);
        CHECK.due("deep: last parameter", x.value(11), 2);
        CHECK.due("deep: the one before", x.value(10), 11);
        String parts = "(1+2*".repeat(57) + "1" + ")".repeat(57);
        ProgramRuns y = CHECK.program("fun m(){assert(" + parts + "<0);}");
        CHECK.due("deep: 2^58 - 1 is no int", y.run(1), 1);
    }
}
