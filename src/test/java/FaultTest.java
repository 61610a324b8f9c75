/** Promises 3 and 4: where the fault of a text lies. The @ is no part of the texts. */
public final class FaultTest {
    private static final Check CHECK = new Check();

    public static void main(String[] args) {
        blanks();
        names();
        numbers();
        signs();
        heads();
        statements();
        sums();
        conds();
        theEnd();
        depthOfBlocks();
        depthOfSums();
        depthOfConds();
        callsInDeepBlocks();
        CHECK.close();
    }

    private static void inBlock(String statements) {
        CHECK.fault("fun m(){" + statements + "}");
    }

    private static void inSum(String sum) {
        inBlock("x=" + sum + ";");
    }

    private static void inCond(String cond) {
        inBlock("assert(" + cond + ");");
    }

    private static void blanks() {
        CHECK.right("\t\n\r fun//x\n m // { }\r ( //\n\n(){}// the end");
        CHECK.right("fun m(){}//");
        CHECK.right("fun m(){var x=1;x=4//2\n/2;}");
        CHECK.fault("fun m(){}@/");
        CHECK.fault("fun m(){x=4//@");
        CHECK.fault("@\u000bfun m(){}");
        CHECK.fault("@\0fun m(){}");
        CHECK.fault("fun m(){}@\u00a0");
        CHECK.fault("// fun m(){}@");
        CHECK.fault("// a\r fun m(){}@");
        CHECK.fault(" \n @");
        CHECK.fault("@");
    }

    private static void names() {
        String longest = "_aZ0123456789012345678901234_z";
        CHECK.right("fun " + longest + "(){var " + longest + ";" + longest + "=1;}");
        CHECK.fault("fun @" + longest + "x(){}");
        inBlock("var @" + longest + "_;");
        CHECK.right("fun fun1(){var var_;var If;var any0;any0=If+var_;}");
        for (String word : new String[] {"fun", "var", "if", "else", "while", "assert", "return", "any"}) {
            inBlock("var @" + word + ";");
            CHECK.right("fun m(){var " + word + word + ";var " + word.substring(1) + "_;var _" + word + ";}");
            CHECK.right("fun m(){var " + word.substring(0, word.length() - 1) + ";var " + word + "s;var " + word.substring(1) + ";}");
        }
        CHECK.fault("fun @fun(){}");
        CHECK.fault("fun @any(){}");
        CHECK.fault("fun m(@if){}");
        inBlock("var @else;");
        inBlock("@else{}");
        inBlock("var @while;");
        inBlock("x=@assert;");
        inBlock("x=@return;");
        inBlock("x=@var;");
        inBlock("@any=1;");
        inBlock("@any(1,2);");
        CHECK.fault("@funm(){}");
        CHECK.fault("fun @\u00e4(){}");
        CHECK.fault("fun m@\u00e4(){}");
    }

    private static void numbers() {
        CHECK.right("fun m(){var x=2147483647;x=0;x=10;}");
        inSum("@2147483648");
        inSum("-@2147483648");
        inSum("@99999999999999999999999999");
        inSum("@4294967297");
        inSum("@00");
        inSum("@01");
        inSum("@0x1");
        inSum("@1a");
        inSum("@1_");
        inSum("@1A");
        inSum("1 @a");
        inSum("1@.5");
        inSum("any(@01,1)");
        inBlock("var t[@2147483648];");
    }

    private static void signs() {
        inCond("1<2@&3<4");
        inCond("1<2&&@&3<4");
        inCond("1<2@|3<4");
        inCond("1@=<2");
        inCond("1@=>2");
        inCond("1<@>2");
        inCond("1@! =2");
        inCond("1@= =2");
        inCond("1==@=2");
        inCond("1<=@=2");
        inSum("1@^2");
        inSum("@~1");
        inBlock("x@==1;");
        inBlock("x@+=1;");
        inBlock("x@:=1;");
        inSum("@'1'");
        inSum("@\"1\"");
    }

    private static void heads() {
        CHECK.right("fun m(){}");
        CHECK.right("fun f(a){}fun g(a,b,c){}fun m(){}");
        CHECK.fault("fun m@{}");
        CHECK.fault("fun m(@,){}");
        CHECK.fault("fun m(a @b){}");
        CHECK.fault("fun m(a,@){}");
        CHECK.fault("fun m(a,@,b){}");
        CHECK.fault("fun m(@1){}");
        CHECK.fault("fun m(@[){}");
        CHECK.fault("fun m(a@[){}");
        CHECK.fault("fun m()@;");
        CHECK.fault("fun m()@fun");
        CHECK.fault("fun m(){}@;");
        CHECK.fault("fun m(){}@}");
        CHECK.fault("fun m(){}@m");
        CHECK.fault("@m(){}");
        CHECK.fault("@var x;");
    }

    private static void statements() {
        inBlock("@;");
        inBlock("@{}");
        inBlock("@1=x;");
        inBlock("@fun f(){}");
        inBlock("var @;");
        inBlock("var @1;");
        inBlock("var x@,y;");
        inBlock("var x[@];");
        inBlock("var x[@-1];");
        inBlock("var x[@n];");
        inBlock("var x[1@+1];");
        inBlock("var x[1]@=2;");
        inBlock("var x=@;");
        inBlock("var x=y@(1);");
        inBlock("x@;");
        inBlock("x @y;");
        inBlock("x@{");
        inBlock("x[@]=1;");
        inBlock("x[1]@;");
        inBlock("x[1]@[2]=3;");
        inBlock("x[1]=f@(2);");
        inBlock("x=f()@+1;");
        inBlock("x=1+f@();");
        inBlock("x=(f@());");
        inBlock("f(@,);");
        inBlock("f(@;");
        inBlock("f(1,@;");
        inBlock("f(1@;");
        inBlock("x=f(@;");
        inBlock("t[@;");
        inBlock("t[1]=@;");
        inBlock("f(1,@);");
        inBlock("f(1 @2);");
        inBlock("f()@");
        inBlock("f()@=1;");
        inBlock("f()@{}");
        inBlock("if@{}");
        inBlock("if(@){}");
        inBlock("if(1<2)@x=1;");
        inBlock("if(1<2){}else @if(1<2){}");
        inBlock("if(1<2){}else{}@else{}");
        inBlock("if(1<2){}@;");
        inBlock("while(1<2){}@else{}");
        inBlock("while(1<2)@;");
        inBlock("assert @1<2;");
        inBlock("assert(1<2)@{}");
        inBlock("return@;");
        inBlock("return 1@<2;");
        inBlock("return f@();");
    }

    private static void sums() {
        inSum("1+@");
        inSum("1-2*@");
        inSum("-@");
        inSum("(1@");
        inSum("@+1");
        inSum("1+@+1");
        inSum("1*@/1");
        inSum("1%@*1");
        inSum("- @*1");
        inSum("(@)");
        inSum("(1@,2)");
        inSum("(1@<2)");
        inSum("1@)");
        inSum("(1)@(2)");
        inSum("1@(2)");
        inSum("a @b");
        inSum("t[1@");
        inSum("t[@]");
        inSum("1@[1]");
        inSum("t[1]@[1]");
        inSum("@[1]");
        inSum("@!1");
        inSum("any @any");
        inSum("any(@)");
        inSum("any(1@)");
        inSum("any(1,@)");
        inSum("any(1,2@,3)");
        inSum("any(@a,2)");
        inSum("any(1,@(2))");
        inSum("any(-@-1,2)");
        inSum("any(1@+1,2)");
        inSum("any@[1]");
        inSum("1@&&1");
        CHECK.right("fun m(){var x=1;var t[3];x=--1+-(2)*-any%any(-1,-1)/(t[(t[0])]-x);}");
    }

    private static void conds() {
        inCond("@");
        inCond("1@");
        inCond("1<@");
        inCond("1<2@<3");
        inCond("(1@<2)");
        inCond("(1)<2@]");
        inCond("[1<2@)");
        inCond("[1@]<2");
        inCond("[1<2]@<3");
        inCond("!1@");
        inCond("!@");
        inCond("1<2&&@");
        inCond("1<2||@");
        inCond("1<2||!@");
        inCond("[1<2||@]");
        inCond("[@]");
        inCond("1<1+@");
        inCond("1<2||@||1<2");
        inCond("1<2@,3<4");
        inCond("1<2 @!1<2");
        CHECK.right("fun m(){assert(!![1<2||!3<=4&&(5)>6]&&7>=-8||9==0&&1!=2);}");
    }

    private static void theEnd() {
        CHECK.fault("fun@");
        CHECK.fault("fun m@");
        CHECK.fault("fun m(@");
        CHECK.fault("fun m()@");
        CHECK.fault("fun m(){@");
        CHECK.fault("fun m(){}fun@");
        CHECK.fault("fun m(){x=1;  // more \n @");
        CHECK.fault("fun m(){if(1<2){}@");
        CHECK.fault("fun m(){if(1<2){}else@");
        CHECK.fault("fun m(){assert(1@");
    }

    private static String nested(int blocks, String inside) {
        return "fun m(){" + "if(1<2){".repeat(blocks - 1) + inside + "}".repeat(blocks);
    }

    /** A BLOCK that is 60 deep never comes: the SUM in the COND before it is 61 deep. */
    private static void depthOfBlocks() {
        CHECK.right(nested(59, "var x=1;x=2;var t[3];t[0]=x;"));
        CHECK.right(nested(58, "if(1<2){}else{var x=1;}while(2<1){var x=1;}"));
        CHECK.fault(nested(59, "if(@1<2){}"));
        CHECK.fault(nested(59, "while(@2<1){}"));
        CHECK.fault(nested(59, "assert(@2<1);"));
        CHECK.fault(nested(59, "if(!@2<1){}"));
        CHECK.fault(nested(59, "if([@2<1]){}"));
        CHECK.fault(nested(58, "if(1<2){}else{while(@1<2){}}"));
        CHECK.fault(nested(58, "while(1<-@2){}"));
        CHECK.right("fun f(a){return a;}" + nested(59, "var x;x=f(x);f(1+any);"));
        CHECK.fault(nested(59, "x=-@1;"));
        CHECK.fault(nested(59, "var x=-@y();"));
        CHECK.fault(nested(59, "x=y[@1];"));
        CHECK.fault(nested(59, "x=(@1);"));
        CHECK.fault(nested(59, "t[(@1)]=2;"));
        CHECK.fault(nested(59, "f(1,t[@1]);"));
        CHECK.fault(nested(59, "return -@1;"));
    }

    private static void callsInDeepBlocks() {
        CHECK.fault(nested(59, "var x=f@(1);"));
        CHECK.fault(nested(59, "t[1]=f@(1);"));
        CHECK.fault(nested(59, "x=f // \n ()@+1;"));
        CHECK.wrong(4, nested(59, "@y();"));
        ProgramRuns x = CHECK.program("fun f(){return 7;}fun m(){var x;" + "if(1<2){".repeat(58) + "x=f();" + "}".repeat(59));
        CHECK.due("59 blocks deep, run", x.run(60), 16);
        CHECK.due("59 blocks deep, value", x.value(0), 0);
        CHECK.due("59 blocks deep, run to the end", x.run(61), 0);
    }

    private static void depthOfSums() {
        CHECK.right("fun m(){var x=" + "-".repeat(58) + "1;}");
        CHECK.fault("fun m(){var x=" + "-".repeat(59) + "@1;}");
        CHECK.right("fun m(){var x=" + "(".repeat(58) + "1" + ")".repeat(58) + ";}");
        CHECK.fault("fun m(){var x=" + "(".repeat(59) + "@1" + ")".repeat(59) + ";}");
        CHECK.fault("fun m(){var x=" + "(".repeat(59) + "@)" + ")".repeat(59) + ";}");
        CHECK.fault("fun m(){var x=" + "(".repeat(59) + " // \n @");
        CHECK.fault("fun m(){var x=" + "(".repeat(58) + "1@;");
        CHECK.right("fun m(){var t[2];" + "t[".repeat(59) + "0" + "]".repeat(59) + "=1;}");
        CHECK.fault("fun m(){var t[2];" + "t[".repeat(60) + "@0" + "]".repeat(60) + "=1;}");
        CHECK.fault("fun m(){var x=1+2*" + "-(".repeat(29) + "3+-@4*5" + ")".repeat(29) + ";}");
        CHECK.right("fun m(){var x=1+2*" + "-(".repeat(29) + "3-any(-1,1)" + ")".repeat(29) + ";}");
        CHECK.right("fun f(a){}fun m(){f(" + "(".repeat(58) + "1" + ")".repeat(58) + ");}");
        CHECK.fault("fun f(a){}fun m(){f(" + "(".repeat(59) + "@1" + ")".repeat(59) + ");}");
        CHECK.fault("fun f(a){}fun m(){f(1," + "(".repeat(59) + "@1" + ")".repeat(59) + ");}");
        CHECK.fault("fun f(){return " + "(".repeat(59) + "@1" + ")".repeat(59) + ";}fun m(){}");
    }

    private static void depthOfConds() {
        CHECK.right("fun m(){assert(" + "!".repeat(57) + "1<2);}");
        CHECK.fault("fun m(){assert(" + "!".repeat(58) + "@1<2);}");
        CHECK.fault("fun m(){assert(" + "!".repeat(59) + "@!1<2);}");
        CHECK.right("fun m(){assert(" + "[".repeat(57) + "1<2" + "]".repeat(57) + ");}");
        CHECK.fault("fun m(){assert(" + "[".repeat(58) + "@1<2" + "]".repeat(58) + ");}");
        CHECK.fault("fun m(){assert(" + "[".repeat(59) + "@[1<2]" + "]".repeat(59) + ");}");
        CHECK.fault("fun m(){assert(1<2||3<4&&" + "![".repeat(29) + "@1<2" + "]".repeat(29) + ");}");
        CHECK.right("fun m(){assert(1<2||3<4&&" + "![".repeat(28) + "!1<2" + "]".repeat(28) + ");}");
        CHECK.fault("fun m(){assert(1<2||3<4&&" + "![".repeat(28) + "!1<-@2" + "]".repeat(28) + ");}");
    }
}
