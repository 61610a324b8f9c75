import java.util.Arrays;
import java.util.HashSet;
import java.util.Set;

/**
 * THE FAULT lies at "a token with which no text, of any depth, goes on", at "a byte at which there
 * is no token" or at "the end of the text": at each place of the grammar, for each token there is.
 */
public final class GrammarEdgesTest {
    private static final String[] TOKENS = {
        "fun", "var", "if", "else", "while", "assert", "return", "any", "x", "7",
        "(", ")", "{", "}", "[", "]", ",", ";", "=", "+", "-", "*", "/", "%",
        "<", "<=", ">", ">=", "==", "!=", "&&", "||", "!",
    };
    private static final String FACTORS = "7 x - ( any";
    private static final String TESTS = FACTORS + " ! [";
    private static final String BETWEEN = "+ - * / %";
    private static final String RELATIONS = "< <= > >= == !=";
    private static final String BEHIND_TEST = "&& ||";
    private static final String STATEMENTS = "var x if while assert return }";
    // With what is behind a token, it could be taken for another statement than it begins.
    private static final String[] BEHIND = {"", " x ( 7 ) ; }", " = x ( ) ; }", " [ 7 ] = 7 ; }", " 7 ; }", " < 7 ) { } }", " ; } #"};
    private static final Check CHECK = new Check();

    public static void main(String[] args) {
        functions();
        variables();
        sums();
        inputs();
        namesInFront();
        calls();
        conds("if", "{");
        conds("while", "{");
        conds("assert", ";");
        branches();
        asserts();
        returns();
        insideBranches();
        howMany();
        CHECK.close();
    }

    /** With these tokens, and no others, a text goes on behind the ones in front. */
    private static void goesOn(String front, String... with) {
        Set<String> those = new HashSet<>(Arrays.asList(String.join(" ", with).split(" ")));
        for (String token : TOKENS) {
            String text = front + " " + token;
            if (those.contains(token)) {
                endsAt(text);
                continue;
            }
            for (String behind : BEHIND) {
                CHECK.faultAt(front.length() + 1, text + behind);
            }
        }
        for (String none : new String[] {"#", "&", "|", "\0", "\u0080", "\u00ff", "'", "01", "2147483648", "7x"}) {
            CHECK.faultAt(front.length() + 1, front + " " + none);
        }
        endsAt(front);
        endsAt(front + " ");
        endsAt(front + " // }");
    }

    /** Nothing but more tokens is missing, if one of its BLOCKs is open or none was. */
    private static void endsAt(String text) {
        String whole = text.replace("// }", "").trim();
        long open = whole.chars().filter(c -> c == '{').count() - whole.chars().filter(c -> c == '}').count();
        if (open == 0 && whole.endsWith("}")) {
            CHECK.noFault(text);
        } else {
            CHECK.faultAt(text.length(), text);
        }
    }

    private static void inBlock(String front, String... with) {
        goesOn("fun m ( ) { " + front, with);
    }

    /** "A TEXT is one FUNCTION or more: fun NAME ( ) BLOCK, or fun NAME ( NAMES ) BLOCK". */
    private static void functions() {
        goesOn("", "fun");
        goesOn("fun", "x");
        goesOn("fun m", "(");
        goesOn("fun m (", "x", ")");
        goesOn("fun m ( a", ",", ")");
        goesOn("fun m ( a ,", "x");
        goesOn("fun m ( a , b", ",", ")");
        goesOn("fun m ( a )", "{");
        goesOn("fun m ( )", "{");
        goesOn("fun m ( ) {", STATEMENTS);
        goesOn("fun m ( ) { }", "fun");
        goesOn("fun f ( ) { } fun", "x");
        goesOn("fun f ( ) { } fun m ( ) { f ( ) ; }", "fun");
    }

    /** "var NAME ;", "var NAME = SUM ;", "var NAME [ NUMBER ] ;". */
    private static void variables() {
        inBlock("var", "x");
        inBlock("var x", "; = [");
        inBlock("var x ;", STATEMENTS);
        inBlock("var x [", "7");
        inBlock("var x [ 7", "]");
        inBlock("var x [ 7 ]", ";");
        inBlock("var x [ 7 ] ;", STATEMENTS);
        inBlock("var x =", FACTORS);
        inBlock("var x = 7 ;", STATEMENTS);
    }

    private static void sums() {
        inBlock("var x = 7", BETWEEN, ";");
        inBlock("var x = y", BETWEEN, "; [");
        inBlock("var x = y [", FACTORS);
        inBlock("var x = y [ 7", BETWEEN, "]");
        inBlock("var x = y [ z", BETWEEN, "] [");
        inBlock("var x = y [ 7 ]", BETWEEN, ";");
        inBlock("var x = -", FACTORS);
        inBlock("var x = - 7", BETWEEN, ";");
        inBlock("var x = (", FACTORS);
        inBlock("var x = ( 7", BETWEEN, ")");
        inBlock("var x = ( y", BETWEEN, ") [");
        inBlock("var x = ( 7 )", BETWEEN, ";");
        for (String sign : BETWEEN.split(" ")) {
            inBlock("var x = 7 " + sign, FACTORS);
            inBlock("var x = 7 " + sign + " 7", BETWEEN, ";");
            inBlock("var x = 7 " + sign + " - y", BETWEEN, "; [");
        }
    }

    /** "any, or any ( LIMIT , LIMIT ), a LIMIT being NUMBER or - NUMBER". */
    private static void inputs() {
        inBlock("var x = any", BETWEEN, "; (");
        inBlock("var x = any (", "7 -");
        inBlock("var x = any ( -", "7");
        inBlock("var x = any ( 7", ",");
        inBlock("var x = any ( - 7", ",");
        inBlock("var x = any ( 7 ,", "7 -");
        inBlock("var x = any ( 7 , -", "7");
        inBlock("var x = any ( 7 , 7", ")");
        inBlock("var x = any ( 7 , - 7", ")");
        inBlock("var x = any ( 7 , 7 )", BETWEEN, ";");
    }

    /** "NAME = SUM ;", "NAME [ SUM ] = SUM ;". */
    private static void namesInFront() {
        inBlock("x", "= [ (");
        inBlock("x =", FACTORS);
        inBlock("x = 7", BETWEEN, ";");
        inBlock("x = y", BETWEEN, "; [ (");
        inBlock("x = y ;", STATEMENTS);
        inBlock("x = y +", FACTORS);
        inBlock("x = 7 + y", BETWEEN, "; [");
        inBlock("x = - y", BETWEEN, "; [");
        inBlock("x [", FACTORS);
        inBlock("x [ 7", BETWEEN, "]");
        inBlock("x [ y", BETWEEN, "] [");
        inBlock("x [ 7 ]", "=");
        inBlock("x [ 7 ] =", FACTORS);
        inBlock("x [ 7 ] = 7", BETWEEN, ";");
        inBlock("x [ 7 ] = y", BETWEEN, "; [");
        inBlock("x [ 7 ] = 7 ;", STATEMENTS);
    }

    /** "NAME = NAME ( SUMS ) ;", "NAME ( SUMS ) ;", "SUMS are none, or SUMs with , between". */
    private static void calls() {
        for (String front : new String[] {"f (", "x = f ("}) {
            inBlock(front, FACTORS, ")");
            inBlock(front + " 7", BETWEEN, ", )");
            inBlock(front + " y", BETWEEN, ", ) [");
            inBlock(front + " 7 ,", FACTORS);
            inBlock(front + " 7 , 7", BETWEEN, ", )");
            inBlock(front + " 7 , 7 )", ";");
            inBlock(front + " 7 )", ";");
            inBlock(front + " )", ";");
            inBlock(front + " ) ;", STATEMENTS);
        }
    }

    /** "A COND is BOTHs with || between, a BOTH is TESTs with && between". */
    private static void conds(String word, String behind) {
        inBlock(word, "(");
        for (String front : new String[] {"", " !", " ! !", " [", " [ !", " 7 < 7 &&", " 7 < 7 ||", " [ 7 < 7 ||"}) {
            inBlock(word + " (" + front, TESTS);
            inBlock(word + " (" + front + " 7", BETWEEN, RELATIONS);
            inBlock(word + " (" + front + " y", BETWEEN, RELATIONS, "[");
            inBlock(word + " (" + front + " ( 7", BETWEEN, ")");
            inBlock(word + " (" + front + " ( 7 )", BETWEEN, RELATIONS);
        }
        for (String relation : RELATIONS.split(" ")) {
            inBlock(word + " ( 7 " + relation, FACTORS);
            inBlock(word + " ( 7 " + relation + " 7", BETWEEN, BEHIND_TEST, ")");
            inBlock(word + " ( 7 " + relation + " y", BETWEEN, BEHIND_TEST, ") [");
            inBlock(word + " ( [ 7 " + relation + " 7", BETWEEN, BEHIND_TEST, "]");
        }
        inBlock(word + " ( ! 7 < 7", BETWEEN, BEHIND_TEST, ")");
        inBlock(word + " ( 7 < ( 7 )", BETWEEN, BEHIND_TEST, ")");
        inBlock(word + " ( [ 7 < 7 ]", BEHIND_TEST, ")");
        inBlock(word + " ( ! [ 7 < 7 ]", BEHIND_TEST, ")");
        inBlock(word + " ( [ [ 7 < 7 ]", BEHIND_TEST, "]");
        inBlock(word + " ( 7 < 7 )", behind);
    }

    /** "if ( COND ) BLOCK", "if ( COND ) BLOCK else BLOCK", "while ( COND ) BLOCK". */
    private static void branches() {
        inBlock("if ( 7 < 7 ) {", STATEMENTS);
        inBlock("if ( 7 < 7 ) { }", STATEMENTS, "else");
        inBlock("if ( 7 < 7 ) { } else", "{");
        inBlock("if ( 7 < 7 ) { } else {", STATEMENTS);
        inBlock("if ( 7 < 7 ) { } else { }", STATEMENTS);
        inBlock("if ( 7 < 7 ) { x = 7 ; }", STATEMENTS, "else");
        inBlock("while ( 7 < 7 ) {", STATEMENTS);
        inBlock("while ( 7 < 7 ) { }", STATEMENTS);
        inBlock("while ( 7 < 7 ) { if ( 7 < 7 ) { }", STATEMENTS, "else");
        inBlock("if ( 7 < 7 ) { while ( 7 < 7 ) { }", STATEMENTS);
        inBlock("if ( 7 < 7 ) { while ( 7 < 7 ) { } }", STATEMENTS, "else");
        inBlock("if ( 7 < 7 ) { } x = 7 ;", STATEMENTS);
    }

    private static void asserts() {
        inBlock("assert ( 7 < 7 ) ;", STATEMENTS);
    }

    private static void returns() {
        inBlock("return", FACTORS);
        inBlock("return 7", BETWEEN, ";");
        inBlock("return y", BETWEEN, "; [");
        inBlock("return 7 ;", STATEMENTS);
    }

    /** What goes on in a function's BLOCK goes on in those within it. */
    private static void insideBranches() {
        for (String front : new String[] {"if ( 7 < 7 ) {", "if ( 7 < 7 ) { } else {", "while ( 7 < 7 ) {"}) {
            inBlock(front + " var x", "; = [");
            inBlock(front + " x", "= [ (");
            inBlock(front + " x = y", BETWEEN, "; [ (");
            inBlock(front + " return 7 ;", STATEMENTS);
            inBlock(front + " x = 7 ; x = 7 ;", STATEMENTS);
        }
    }

    /** "one FUNCTION or more", "STATEMENTs between, none or more", "SUMS are none, or ..". */
    private static void howMany() {
        CHECK.faultAt(0, "");
        CHECK.right("fun m(){}");
        CHECK.right("fun f(){}fun m(){}");
        for (String statements : new String[] {"", "x=1;", "x=1;x=2;", "x=1;x=2;x=3;"}) {
            CHECK.right("fun f(x){" + statements + "}fun m(){var x;if(1<2){" + statements + "}else{" + statements + "}"
                    + "while(1<2){" + statements + "}" + statements + "f(1);}");
        }
        CHECK.right("fun f(){return 1;}fun m(){var x;f();x=f();}");
        CHECK.right("fun f(a){return 1;}fun m(){var x;f(1);x=f(1);}");
        CHECK.right("fun f(a,b){return 1;}fun m(){var x;f(1,2);x=f(1,2);}");
        CHECK.right("fun f(a,b,c){return 1;}fun m(){var x;f(1,2,3);x=f(1,2,3);}");
        CHECK.fault("fun m(){f(@,1);}");
        CHECK.fault("fun m(){f(1,@,2);}");
        CHECK.fault("fun m(){f(1,@);}");
    }
}
