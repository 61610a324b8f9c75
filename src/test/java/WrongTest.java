/** Promises 3 and 4: what is wrong with a program, and where. The @ is no part of the texts. */
public final class WrongTest {
    private static final Check CHECK = new Check();

    public static void main(String[] args) {
        meanings();
        namesTwice();
        arraysAndNumbers();
        calls();
        sumsOfCalls();
        returns();
        theProgram();
        limits();
        places();
        tooManyNumbers();
        tooManyArrays();
        tooManyPoints();
        orderInStatements();
        orderOfPoints();
        whatIsNotLookedAt();
        CHECK.close();
    }

    private static void inProgram(int what, String statements) {
        CHECK.wrong(what, "fun m(){" + statements + "}");
    }

    private static void right(String statements) {
        CHECK.right("fun m(){" + statements + "}");
    }

    private static void meanings() {
        inProgram(1, "@x=1;");
        inProgram(1, "@x[0]=1;");
        inProgram(1, "var x=@x;");
        inProgram(1, "var x=1+@y;var y;");
        inProgram(1, "var t[2];t[@i]=1;");
        inProgram(1, "var t[2];t[0]=t[1]+@u[1];");
        inProgram(1, "if(1<2){var x;}@x=1;");
        inProgram(1, "if(1<2){var x;}else{@x=1;}");
        inProgram(1, "while(1<@x){var x;}");
        inProgram(1, "assert(1<2||!-(3*@x)<4);");
        inProgram(1, "var X;@x=1;");
        inProgram(1, "var xy;@x=1;");
        inProgram(1, "var x;@xy=1;");
        right("var x;if(1<2){var x=x;x=1;}x=2;");
        right("var x=1;while(x<2){var y=x;if(y<3){x=y;}x=x+1;}");
        CHECK.wrong(1, "fun f(){@x=1;}fun m(){var x;f();}");
        CHECK.wrong(1, "fun f(){@x=1;}fun m(){var t[2];var x;f();}");
        CHECK.wrong(1, "fun f(){if(1<2){@x=1;}}fun m(){var x;var t[2];var u[2];f();}");
        CHECK.wrong(1, "fun f(a){var x;}fun m(){f(1);@a=1;}");
        CHECK.wrong(1, "fun f(a){}fun m(){f(@a);}");
        CHECK.wrong(1, "fun f(){return 1;}fun m(){@x=f();}");
        CHECK.wrong(1, "fun f(){}fun m(){@f=1;}");
        CHECK.right("fun f(f){f=f+1;return f;}fun m(){var f;f=f(f);}");
        CHECK.right("fun f(a){if(a<1){var b=a;}}fun m(){var b;f(b);}");
    }

    private static void namesTwice() {
        inProgram(2, "var x;var @x;");
        inProgram(2, "var x;var @x[3];");
        inProgram(2, "var x[3];var y;var @x=1;");
        inProgram(2, "if(1<2){var x;var @x;}");
        inProgram(2, "var x;if(1<2){var x;if(1<2){var x;}var @x;}");
        right("var x;if(1<2){var x[3];x[0]=1;}else{var x;}while(2<1){var x;}x=1;");
        right("if(1<2){var x;}var x;");
        CHECK.wrong(2, "fun f(a){var @a;}fun m(){f(1);}");
        CHECK.wrong(2, "fun f(a,b){var c;var @b[2];}fun m(){var a;f(a,a);}");
        CHECK.right("fun f(a){if(1<2){var a;}}fun m(){var a;f(1);}");
        CHECK.wrong(2, "fun f(a,@a){}fun m(){f(1,2);}");
        CHECK.wrong(2, "fun f(a,b,c,@b,a){}fun m(){f(1,2,3,4,5);}");
        CHECK.wrong(2, "fun f(aa,a,b,@aa){}fun m(){f(1,2,3,4);}");
        CHECK.right("fun f(a,a){}fun m(){}");
    }

    private static void arraysAndNumbers() {
        inProgram(3, "var x;@x[0]=1;");
        inProgram(3, "var t[2];@t=1;");
        inProgram(3, "var t[2];var x=@t;");
        inProgram(3, "var t[2];var x=t[@t];");
        inProgram(3, "var x;var y=x+@x[0];");
        inProgram(3, "var t[2];assert(1<@t);");
        inProgram(3, "var t[2];if(1<2){var x=t[0];var t=1;t=x;@t[0]=1;}");
        CHECK.wrong(3, "fun f(a){}fun m(){var t[2];f(@t);}");
        CHECK.wrong(3, "fun f(){return 1;}fun m(){var t[2];@t=f();}");
        CHECK.wrong(3, "fun f(a){@a[0]=1;}fun m(){f(1);}");
    }

    private static void calls() {
        inProgram(4, "@f();");
        inProgram(4, "var x;x=@f();");
        inProgram(4, "@m();");
        inProgram(4, "var f;@f();");
        CHECK.wrong(4, "fun f(){@f();}fun m(){f();}");
        CHECK.wrong(4, "fun f(){@g();}fun g(){}fun m(){f();}");
        CHECK.wrong(4, "fun f(){}fun m(){@F();}");
        CHECK.wrong(4, "fun f(){}fun m(){@ff();}");
        ProgramRuns x = CHECK.program("fun f(){return 1;}fun g(){var x;x=f();return x;}"
                + "fun f(){return 2;}fun f(){var x;x=f();return 10*x;}fun m(){var a;var b;a=f();b=g();}");
        CHECK.due("functions of one name", x.run(11), 16);
        CHECK.due("the latest one, that calls the one before", x.value(0), 20);
        CHECK.due("the one meant by an older function", x.value(2), 1);
        CHECK.right("fun m(){}fun m(){m();}");
    }

    private static void sumsOfCalls() {
        CHECK.wrong(5, "fun f(a){}fun m(){@f();}");
        CHECK.wrong(5, "fun f(){}fun m(){@f(1);}");
        CHECK.wrong(5, "fun f(a,b){}fun m(){@f(1,2,3);}");
        CHECK.wrong(5, "fun f(a,b){return 1;}fun m(){var x;x=@f(1);}");
        CHECK.wrong(5, "fun f(){}fun f(a){}fun m(){@f();}");
    }

    private static void returns() {
        CHECK.wrong(6, "fun f(){@return 1;var x;}fun m(){f();}");
        CHECK.wrong(6, "fun f(){@return 1;return 2;}fun m(){f();}");
        CHECK.wrong(6, "fun f(){if(1<2){@return 1;}}fun m(){f();}");
        CHECK.wrong(6, "fun f(){if(1<2){@return 1;}return 2;}fun m(){var x;x=f();}");
        CHECK.wrong(6, "fun f(){while(1<2){}if(1<2){}else{@return 1;}}fun m(){f();}");
        CHECK.wrong(6, "fun f(){while(1<2){@return 1;}}fun m(){f();}");
        CHECK.wrong(6, "fun f(){}fun m(){var x;x=@f();}");
        CHECK.wrong(6, "fun f(){var y;}fun m(){var x;x=@f();}");
        CHECK.wrong(6, "fun f(){if(1<2){return 1;}}fun m(){var x;x=@f();}");
        CHECK.wrong(6, "fun g(){return 1;}fun f(){g();}fun m(){var x;x=@f();}");
        CHECK.wrong(6, "fun g(){return 1;}fun f(){}fun m(){var x;x=g();x=@f();}");
        inProgram(6, "@return 1;var x;");
        inProgram(6, "if(1<2){@return 1;}");
        inProgram(6, "@return 1;return 2;");
        CHECK.right("fun f(){return 1;}fun m(){f();}");
    }

    private static void theProgram() {
        inProgram(7, "@return 1;");
        inProgram(7, "var x;@return x;");
        CHECK.wrong(7, "fun f(){}fun @m(a){}");
        CHECK.wrong(7, "fun f(){}fun @m(a,a){x=1;return 1;}");
        CHECK.wrong(7, "fun @m(a){return y;}");
        CHECK.wrong(7, "fun m(){var x;x=x;@return x;}");
    }

    private static void limits() {
        inProgram(8, "var x=any(@1,0);");
        inProgram(8, "var x=any(@-1,-2);");
        inProgram(8, "var x=1+-(2*any(@3,2));");
        inProgram(8, "var x=any( @- 1 , - 2 );");
        inProgram(8, "assert(any(1,1)<any(@2147483647,-2147483647));");
        inProgram(8, "var t[2];t[any(@1,0)]=any(1,0);");
        right("var x=any(0,0)+any(-1,-1)+any(-2147483647,2147483647)+any(-2,1);");
    }

    private static void places() {
        inProgram(9, "var t[@0];");
        inProgram(9, "var t[@65];");
        inProgram(9, "var t[@2147483647];");
        right("var t[1];var u[64];");
    }

    private static String vars(int count) {
        StringBuilder text = new StringBuilder();
        for (int i = 0; i < count; i++) {
            text.append("var v").append(i).append(";");
        }
        return text.toString();
    }

    private static String arrays(int count) {
        StringBuilder text = new StringBuilder();
        for (int i = 0; i < count; i++) {
            text.append("var t").append(i).append("[64];");
        }
        return text.toString();
    }

    private static void tooManyNumbers() {
        right(vars(12));
        inProgram(10, vars(12) + "@var x=1;");
        inProgram(10, vars(11) + "if(1<2){var x;@var y;}");
        right(vars(11) + "if(1<2){var x;}else{var y;}while(2<1){var z;}var w;");
        CHECK.right("fun f(a,b){var c;return c;}fun m(){" + vars(9) + "v0=f(1,2);v1=f(3,4);}");
        CHECK.wrong(10, "fun f(a,b){var c;@var d;}fun m(){" + vars(9) + "f(1,2);}");
        CHECK.wrong(10, "fun f(a,b){return 1;}fun m(){" + vars(11) + "@f(1,2);}");
        CHECK.wrong(10, "fun f(a,b){return 1;}fun m(){" + vars(11) + "@v0=f(1,2);}");
        CHECK.right("fun f(a,b){return 1;}fun m(){" + vars(10) + "v0=f(1,2);}");
        CHECK.right("fun f(a,b,c,d,e,f,g,h,i,j,k,l){}fun m(){f(1,2,3,4,5,6,7,8,9,10,11,12);}");
        CHECK.wrong(10, "fun f(a,b,c,d,e,f,g,h,i,j,k,l,m){}fun m(){@f(1,2,3,4,5,6,7,8,9,10,11,12,13);}");
        CHECK.wrong(10, "fun g(a){}fun f(a){if(1<2){@g(a);}}fun m(){" + vars(11) + "f(1);}");
    }

    private static void tooManyArrays() {
        right(arrays(6) + vars(12));
        inProgram(13, arrays(6) + "@var x[1];");
        inProgram(13, vars(12) + arrays(5) + "if(1<2){var x[1];@var y[1];}");
        right(arrays(5) + "if(1<2){var x[1];}else{var y[1];}var z[1];");
        CHECK.wrong(13, "fun f(){@var x[1];}fun m(){" + arrays(6) + "f();}");
        CHECK.right("fun f(){var x[1];}fun m(){" + arrays(5) + "f();f();}");
    }

    private static void tooManyPoints() {
        String most = "var x;" + "x=x+1;".repeat(248);
        right(most);
        inProgram(11, most + "@x=x+1;");
        inProgram(11, most + "@if(1<2){}");
        inProgram(11, most + "@return y;");
        inProgram(11, most + "@var x;");
        inProgram(11, "var x;" + "x=1;".repeat(247) + "if(1<2){@x=1;}");
        right("var x;" + "x=1;".repeat(246) + "if(1<2){x=1;}");
        CHECK.wrong(11, "fun f(){@g=1;}fun m(){var x;" + "x=1;".repeat(247) + "f();}");
        CHECK.right("fun f(){}fun m(){var x;" + "x=1;".repeat(247) + "f();}");
        StringBuilder chain = new StringBuilder("fun f(){}");
        for (int i = 0; i < 249; i++) {
            chain.append("fun f(){f();}");
        }
        CHECK.right(chain.toString());
        chain.append("fun f(){f();}");
        CHECK.wrong(11, chain.toString().replaceFirst("f\\(\\);", "@f();"));
    }

    private static void orderInStatements() {
        inProgram(2, "var x;var @x=y;");
        inProgram(2, "var x;var @x[0];");
        inProgram(1, vars(12) + "var x=@y;");
        inProgram(9, arrays(6) + "var x[@65];");
        inProgram(1, "@x=any(2,1);");
        inProgram(8, "var x=any(@2,1)+y;");
        inProgram(1, "var x=@y+any(2,1);");
        inProgram(1, "@t[u]=any(2,1);");
        inProgram(3, "var x;@x[y]=1;");
        inProgram(1, "@x=f();");
        inProgram(4, "var x;x=@f(y);");
        CHECK.wrong(3, "fun f(){}fun m(){var t[1];@t=f(1);}");
        CHECK.wrong(5, "fun f(a,a){}fun m(){var x;x=@f(y);}");
        CHECK.wrong(6, "fun f(a,a){}fun m(){var x;x=@f(y,z);}");
        CHECK.wrong(1, "fun f(a,a){return 1;}fun m(){var x;x=f(x,@z);}");
        CHECK.wrong(2, "fun f(a,@a){return 1;}fun m(){" + vars(12) + "v0=f(1,2);}");
        CHECK.wrong(10, "fun f(a,b){x=1;}fun m(){" + vars(12) + "@f(1,2);}");
        CHECK.wrong(6, "fun f(){@return x;return 1;}fun m(){f();}");
        inProgram(7, "@return x;");
        CHECK.wrong(1, "fun f(){return @x;}fun m(){f();}");
    }

    private static void orderOfPoints() {
        inProgram(1, "if(1<@x){y=1;}");
        inProgram(1, "if(1<2){@y=1;}else{z=1;}");
        inProgram(1, "if(1<2){}else{@z=1;}w=1;");
        inProgram(1, "while(1<2){@y=1;}w=1;");
        CHECK.wrong(1, "fun f(){@x=1;}fun m(){f();y=1;}");
        CHECK.wrong(1, "fun f(){x=1;}fun m(){@y=1;f();}");
        CHECK.wrong(1, "fun f(){x=1;}fun g(){@y=1;}fun m(){g();f();}");
        CHECK.wrong(1, "fun f(){x=1;}fun g(){@z=1;f();}fun m(){if(1<2){g();}y=1;}");
        CHECK.wrong(10, "fun f(a,b){@var c;}fun m(){f(1,2);" + vars(10) + "f(1,2);}");
    }

    private static void whatIsNotLookedAt() {
        CHECK.right("fun f(a,a){x=1;y();return 1;return 2;var t[0];t=any(2,1);}fun m(){}");
        CHECK.right("fun f(){x=1;}fun g(){f();}fun m(){}");
        CHECK.right("fun f(){x=1;}fun f(){}fun m(){f();}");
        CHECK.fault("fun f(){x=@;}fun m(){}");
    }
}
