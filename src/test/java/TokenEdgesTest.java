import java.util.Locale;

/** What the Terms say of TOKENS, at its edges; a method holds the sentence that it quotes. */
public final class TokenEdgesTest {
    private static final int BYTES = 256;
    private static final String THIRTY = "abcdefghijklmnopqrstuvwxyz_019";
    private static final String[] WORDS = {"fun", "var", "if", "else", "while", "assert", "return", "any"};
    private static final Check CHECK = new Check();

    public static void main(String[] args) {
        bytesBetweenTokens();
        blanksAround();
        bytesInRemarks();
        remarksUpToTheEnd();
        whereRemarksBegin();
        firstBytesOfNames();
        furtherBytesOfNames();
        namesOfThirtyBytes();
        namesOfThirtyBytesAreApart();
        words();
        greatestNumber();
        zerosInFront();
        bytesBehindNumbers();
        longestSignsInATest();
        longestSignsBetweenTests();
        CHECK.close();
    }

    private static boolean isBlank(int b) {
        return b == 9 || b == 10 || b == 13 || b == 32;
    }

    private static boolean isDigit(int b) {
        return b >= '0' && b <= '9';
    }

    private static boolean beginsName(int b) {
        return b >= 'A' && b <= 'Z' || b >= 'a' && b <= 'z' || b == '_';
    }

    /** "BLANKS are the bytes 9, 10, 13, 32": no other one of the 256 can be passed over. */
    private static void bytesBetweenTokens() {
        for (int b = 0; b < BYTES; b++) {
            String text = "fun m(){" + (char) b + "}";
            if (isBlank(b)) {
                CHECK.right(text);
            } else {
                // With a NAME or a } the text goes on, but not with the } behind it.
                CHECK.faultAt(beginsName(b) || b == '}' ? 9 : 8, text);
            }
        }
    }

    private static void blanksAround() {
        for (String blank : new String[] {"\t", "\n", "\r", " ", "//\n", "\t\n\r //x\n\r"}) {
            CHECK.right(blank + "fun" + blank + " m" + blank + "(" + blank + ")" + blank + "{" + blank + "}" + blank);
            CHECK.fault(blank + "fun m(){}" + blank + "@}");
            CHECK.fault("fun m(){" + blank + "@");
            CHECK.fault("fun m(){assert(1<" + blank + "@=2);}");
            CHECK.fault("fun m(){var x=1" + blank + "@1;}");
        }
    }

    /** "remarks: from // up to the next byte 10": no other byte ends one. */
    private static void bytesInRemarks() {
        for (int b = 0; b < BYTES; b++) {
            String text = "fun m(){//" + (char) b + "}\n}";
            if (b == '\n') {
                CHECK.faultAt(13, text);
            } else {
                CHECK.right(text);
            }
        }
    }

    /** "or the end": of the text, not of the bytes that were fed. */
    private static void remarksUpToTheEnd() {
        CHECK.right("fun m(){}//");
        CHECK.right("fun m(){}//}");
        CHECK.right("fun m(){}//\n");
        CHECK.fault("fun m(){}//\n@}");
        CHECK.fault("fun m(){//}@");
        CHECK.fault("//@");
        String fed = "fun m(){}//}\n}";
        for (int n = 9; n <= 14; n++) {
            ProgramRuns x = new ProgramRuns();
            Check.feed(x, fed.getBytes());
            boolean faulty = n == 10 || n == 14;
            CHECK.due("end(" + n + ")", x.end(n), faulty ? 1 : 0);
            CHECK.due("told(1) of " + n + " bytes", x.told(1), n == 10 ? 9 : n == 14 ? 13 : 0);
        }
    }

    private static void whereRemarksBegin() {
        CHECK.right("fun m(){var x=8/2;}");
        CHECK.fault("fun m(){var x=8/ @/2;}");
        CHECK.fault("fun m(){var x=8//2;}@");
        CHECK.right("fun m(){var x=8//2;}\n;}");
        CHECK.right("fun m(){var x=8/ //\n2;}");
        CHECK.fault("fun m(){var x=8///\n@2;}");
        CHECK.right("fun//\nm//\n()//\n{}");
        CHECK.fault("@fu//\nn m(){}");
    }

    /** "a letter, A to Z or a to z, or _". */
    private static void firstBytesOfNames() {
        for (int b = 0; b < BYTES; b++) {
            String text = "fun " + (char) b + "(){}";
            if (beginsName(b)) {
                CHECK.right(text);
            } else {
                CHECK.faultAt(isBlank(b) ? 5 : 4, text);
            }
        }
    }

    /** "then letters, digits, _". */
    private static void furtherBytesOfNames() {
        for (int b = 0; b < BYTES; b++) {
            String text = "fun m" + (char) b + "(){}";
            if (beginsName(b) || isDigit(b) || isBlank(b)) {
                CHECK.right(text);
            } else {
                CHECK.faultAt(b == '(' ? 6 : 5, text);
            }
        }
    }

    /** "at most 30 bytes": with one more there is no token at the NAME, wherever it stands. */
    private static void namesOfThirtyBytes() {
        String[] texts = {
            "fun f(a){return a;} fun ~(){}",
            "fun f(~){} fun m(){f(1);}",
            "fun f(b,~){} fun m(){f(1,2);}",
            "fun m(){var ~;}",
            "fun m(){var ~[3];}",
        };
        for (String text : texts) {
            CHECK.right(text.replace("~", THIRTY.substring(1)));
            CHECK.right(text.replace("~", THIRTY));
            CHECK.fault(text.replace("~", "@" + THIRTY + "0"));
            CHECK.fault(text.replace("~", "@" + THIRTY + "z"));
            CHECK.fault(text.replace("~", "@" + THIRTY + "_"));
            CHECK.fault(text.replace("~", "@" + THIRTY + THIRTY));
        }
        String[] statements = {"~=1;", "~[0]=1;", "~();", "x=~();", "x=~;", "x=-(~[1]);", "assert(1<~);", "return ~;"};
        for (String statement : statements) {
            String text = "fun m(){" + statement + "}";
            CHECK.noFault(text.replace("~", THIRTY));
            CHECK.fault(text.replace("~", "@" + THIRTY + "0"));
        }
        CHECK.right("fun m(){}//" + THIRTY + THIRTY);
    }

    /** All of the 30 bytes count. */
    private static void namesOfThirtyBytesAreApart() {
        String other = THIRTY.substring(0, 29);
        CHECK.right("fun m(){var " + THIRTY + ";var " + other + "8;var " + other + ";var A" + THIRTY.substring(1) + ";}");
        CHECK.wrong(2, "fun m(){var " + THIRTY + ";var @" + THIRTY + ";}");
        CHECK.wrong(1, "fun m(){var " + THIRTY + ";@" + other + "8=1;}");
        CHECK.wrong(1, "fun m(){var " + THIRTY + ";@" + other + "=1;}");
        CHECK.wrong(1, "fun m(){var " + other + ";@" + THIRTY + "=1;}");
        CHECK.wrong(4, "fun " + THIRTY + "(){}fun m(){@" + other + "8();}");
        CHECK.right("fun " + THIRTY + "(){}fun m(){" + THIRTY + "();}");
    }

    /** "but fun, var, if, else, while, assert, return and any are WORDS": no NAMEs, as they stand. */
    private static void words() {
        for (String word : WORDS) {
            CHECK.fault("fun @" + word + "(){}");
            CHECK.fault("fun m(@" + word + "){}");
            CHECK.fault("fun m(){var @" + word + ";}");
            for (String name : new String[] {word + "_", word + "0", "_" + word, word + "x", "x" + word,
                    word.toUpperCase(Locale.ROOT), word.substring(0, 1).toUpperCase(Locale.ROOT) + word.substring(1),
                    word.substring(1), word.substring(0, word.length() - 1)}) {
                CHECK.right("fun " + name + "(){}fun m(){var " + name + ";" + name + "();}");
            }
        }
    }

    /** "up to 2147483647". */
    private static void greatestNumber() {
        for (int number : new int[] {0, 1, 9, 10, 999999999, 1000000000, 2147483646, 2147483647}) {
            ProgramRuns x = CHECK.program("fun m(){var x=" + number + ";x=0;}");
            CHECK.due("run with " + number, x.run(1), 16);
            CHECK.due("value of " + number, x.value(0), number);
        }
        String[] tooGreat = {
            "2147483648", "2147483649", "2147483650", "3000000000", "4294967295", "4294967296", "4294967297", "9999999999",
            "10000000000", "21474836470", "9223372036854775807", "9223372036854775808", "18446744073709551616",
            "18446744073709551617", "100000000000000000000000000000000000000000",
        };
        for (String number : tooGreat) {
            CHECK.fault("fun m(){var x=@" + number + ";}");
            CHECK.fault("fun m(){var x=-@" + number + ";}");
            CHECK.fault("fun m(){var t[@" + number + "];}");
            CHECK.fault("fun m(){var x=any(@" + number + ",1);}");
            CHECK.fault("fun m(){var x=any(1,-@" + number + ");}");
        }
        CHECK.right("fun m(){var x=any(-2147483647,2147483647);}");
    }

    /** "0 in front for 0 alone". */
    private static void zerosInFront() {
        CHECK.right("fun m(){var x=0;x=0+0;x=any(0,-0);x=10;x=100;}");
        for (String number : new String[] {"00", "01", "000", "09", "010", "02147483647", "00000000000000000"}) {
            CHECK.fault("fun m(){var x=@" + number + ";}");
            CHECK.fault("fun m(){var t[@" + number + "];}");
            CHECK.fault("fun m(){var x=any(0,@" + number + ");}");
        }
        CHECK.fault("fun m(){var x=0 @0;}");
    }

    /** "all the digits that stand there", "no letter or _ behind". */
    private static void bytesBehindNumbers() {
        for (int b = 0; b < BYTES; b++) {
            String text = "fun m(){var x=7" + (char) b + ";}";
            if (isDigit(b) || isBlank(b)) {
                CHECK.right(text);
            } else if (beginsName(b)) {
                CHECK.faultAt(14, text);
            } else {
                CHECK.faultAt("+-*/%;".indexOf(b) >= 0 ? 16 : 15, text);
            }
        }
        CHECK.fault("fun m(){var x=@0x1;}");
        CHECK.fault("fun m(){var x=@2147483647L;}");
        CHECK.fault("fun m(){var x=@1e5;}");
        CHECK.fault("fun m(){var t[@3x];}");
        CHECK.fault("fun m(){var x=7@\"\";}");
    }

    /** "the longest that can be read at a place": of each two sign bytes behind 1. */
    private static void longestSignsInATest() {
        String bytes = "<>=!&|";
        for (char first : bytes.toCharArray()) {
            for (char second : bytes.toCharArray()) {
                String text = "fun m(){assert(1" + first + second + "2);}";
                boolean firstGoesOn = first == '<' || first == '>';
                if (second == '=' && first != '&' && first != '|') {
                    CHECK.right(text);
                } else {
                    CHECK.faultAt(firstGoesOn ? 17 : 16, text);
                }
                CHECK.faultAt(firstGoesOn ? 18 : 16, "fun m(){assert(1" + first + " " + second + "2);}");
            }
        }
    }

    private static void longestSignsBetweenTests() {
        String bytes = "<>=!&|";
        for (char first : bytes.toCharArray()) {
            for (char second : bytes.toCharArray()) {
                String text = "fun m(){assert(1<2" + first + second + "3<4);}";
                if (first == second && (first == '&' || first == '|')) {
                    CHECK.right(text);
                } else {
                    CHECK.faultAt(18, text);
                }
                CHECK.faultAt(18, "fun m(){assert(1<2" + first + " " + second + "3<4);}");
            }
        }
        CHECK.fault("fun m(){assert(1<2&&@&3<4);}");
        CHECK.fault("fun m(){assert(1<2||@|3<4);}");
        CHECK.fault("fun m(){assert(1==@=2);}");
        CHECK.fault("fun m(){assert(1!=@=2);}");
        CHECK.right("fun m(){assert(1<2&&!3<4);}");
        CHECK.fault("fun m(){assert(@!=1<2);}");
    }
}
