/** Promises 5 and 6: how a program's statements are laid out as points. */
public final class PointsTest {
    private static final Check CHECK = new Check();

    public static void main(String[] args) {
        eachStatement();
        branches();
        loops();
        callsPutIn();
        emptyBlocks();
        counts();
        longChain();
        CHECK.close();
    }

    /** Each row: the statement, where its first token is, numbers, arrays, the next point. */
    private static void laidOut(String text, int[][] rows) {
        ProgramRuns x = CHECK.program(text);
        CHECK.due("points() of " + text, x.points(), rows.length);
        for (int p = 0; p < rows.length; p++) {
            for (int what = 0; what < 5; what++) {
                CHECK.due("point(" + p + ", " + what + ") of " + text, x.point(p, what), rows[p][what]);
            }
        }
        CHECK.due("the point behind the end of " + text, x.point(rows.length, 0), -1);
    }

    private static void eachStatement() {
        laidOut("fun f(a){return a;} fun m(){ var x; var t[3]; x=1; t[0]=x; x=f(x); f(2); if(x<1){} while(x<0){} assert(1<2); }",
                new int[][] {
                    {1, 29, 0, 0, 1}, {1, 36, 1, 0, 2}, {2, 46, 1, 1, 3}, {3, 51, 1, 1, 4},
                    {4, 59, 1, 1, 6}, {8, 9, 2, 1, 6}, {4, 67, 1, 1, 8}, {8, 9, 2, 1, 8},
                    {5, 73, 1, 1, 9}, {6, 83, 1, 1, 10}, {7, 96, 1, 1, 11}, {0, 0, 0, 0, 11},
                });
        laidOut("fun m(){}", new int[][] {{0, 0, 0, 0, 0}});
        laidOut(" \n // x\n fun m ( ) { \t var x // y\n ; }", new int[][] {{1, 23, 0, 0, 1}, {0, 0, 0, 0, 1}});
    }

    private static void branches() {
        laidOut("fun m(){var x;if(x<1){x=1;x=2;}else{x=3;x=4;}x=5;if(x<1){if(x<2){x=6;}}}",
                new int[][] {
                    {1, 8, 0, 0, 1}, {5, 14, 1, 0, 6}, {2, 22, 1, 0, 3}, {2, 26, 1, 0, 6},
                    {2, 36, 1, 0, 5}, {2, 40, 1, 0, 6}, {2, 45, 1, 0, 7}, {5, 49, 1, 0, 10},
                    {5, 57, 1, 0, 10}, {2, 65, 1, 0, 10}, {0, 0, 0, 0, 10},
                });
    }

    private static void loops() {
        laidOut("fun m(){var x;while(x<1){x=1;while(x<2){x=2;if(x<3){x=3;}else{x=4;}}}}",
                new int[][] {
                    {1, 8, 0, 0, 1}, {6, 14, 1, 0, 8}, {2, 25, 1, 0, 3}, {6, 29, 1, 0, 1},
                    {2, 40, 1, 0, 5}, {5, 44, 1, 0, 3}, {2, 52, 1, 0, 3}, {2, 62, 1, 0, 3},
                    {0, 0, 0, 0, 8},
                });
    }

    private static void callsPutIn() {
        laidOut("fun f(a,b){var t[2];return a;}fun g(c){c=f(c,1);}fun m(){var x;while(x<1){g(x);}g(2);}",
                new int[][] {
                    {1, 57, 0, 0, 1}, {6, 63, 1, 0, 6}, {4, 74, 1, 0, 1}, {4, 39, 2, 0, 1},
                    {1, 11, 4, 0, 5}, {8, 20, 4, 1, 1}, {4, 80, 1, 0, 10}, {4, 39, 2, 0, 10},
                    {1, 11, 4, 0, 9}, {8, 20, 4, 1, 10}, {0, 0, 0, 0, 10},
                });
    }

    private static void emptyBlocks() {
        laidOut("fun f(){}fun m(){if(1<2){}else{}if(1<2){}else{f();}if(1<2){f();}else{}while(2<1){}f();}",
                new int[][] {
                    {5, 17, 0, 0, 1}, {5, 32, 0, 0, 3}, {4, 46, 0, 0, 3}, {5, 51, 0, 0, 5},
                    {4, 59, 0, 0, 5}, {6, 70, 0, 0, 6}, {4, 82, 0, 0, 7}, {0, 0, 0, 0, 7},
                });
    }

    private static void counts() {
        laidOut("fun m(){var a;if(1<2){var b;var t[1];var c;}else{var u[1];var d;}var v[1];var e;}",
                new int[][] {
                    {1, 8, 0, 0, 1}, {5, 14, 1, 0, 7}, {1, 22, 1, 0, 3}, {1, 28, 2, 0, 4},
                    {1, 37, 2, 1, 7}, {1, 49, 1, 0, 6}, {1, 58, 1, 1, 7}, {1, 65, 1, 0, 8},
                    {1, 74, 1, 1, 9}, {0, 0, 0, 0, 9},
                });
    }

    /** Calls in calls, as deep as there can be points. */
    private static void longChain() {
        StringBuilder text = new StringBuilder("fun f(){}");
        for (int i = 0; i < 249; i++) {
            text.append("fun f(){f();}");
        }
        ProgramRuns x = CHECK.program(text.toString());
        CHECK.due("chain: points", x.points(), 250);
        CHECK.due("chain: next of the first", x.point(0, 4), 249);
        CHECK.due("chain: next of the last", x.point(248, 4), 249);
        CHECK.due("chain: place of the last", x.point(248, 1), 17);
        CHECK.due("chain: run", x.run(249), 0);
        CHECK.due("chain: run, one step less", x.run(248), 16);
        CHECK.due("chain: where it stands", x.ran(0), 248);
    }
}
