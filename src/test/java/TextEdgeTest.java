/** TEXTS and promises 7 to 9 at their boundaries: a test's name tells the promise and the sentence. */
public final class TextEdgeTest {
    private static final int BAD = SevenInTheHay.BAD, FULL = SevenInTheHay.FULL;
    private static final int MAX = Integer.MAX_VALUE, MIN = Integer.MIN_VALUE;
    private static final String REST = "passes 0;pays 1;";
    private static final String LEAST = "(" + Texts.LEAST_INT + ")", MOST = "(" + Texts.MOST_INT + ")";

    public static void main(String[] args) {
        Check.test("Promise 7, feed: \"A byte (0 .. 255)\", \"BAD\"", TextEdgeTest::bytes);
        Check.test("A TEXT: \"THE TAPE (160 bytes at most)\"; promise 7, feed: \"FULL\"", TextEdgeTest::fullTape);
        Check.test("TOKENS: \"each as long as can be\"", TextEdgeTest::asLongAsCanBe);
        Check.test("TOKENS: \"SIGNS ( ) ; + - * < =\", \"a byte that begins none\"", TextEdgeTest::everyByte);
        Check.test("TOKENS: \"WORDS (a .. z)\"", TextEdgeTest::words);
        Check.test("TOKENS: \"NUMBERS (as many digits as stand there, 4 at most)\"", TextEdgeTest::numbers);
        Check.test("TOKENS: \"blanks (32, 10) may stand between\"", TextEdgeTest::blanks);
        Check.test("\"TEXT: further E ; passes E ; pays E ;\"", TextEdgeTest::wholeText);
        Check.test("\"E: AND { or AND }. AND: NOT { and NOT }.\"", TextEdgeTest::orsAndAnds);
        Check.test("\"NOT: not NOT, or SUM, perhaps < or = and a SUM.\"", TextEdgeTest::nots);
        Check.test("\"SUM: TERM { + or - TERM }. TERM: ONE { * ONE }.\"", TextEdgeTest::sums);
        Check.test("\"ONE: a NUMBER, a NAME, - ONE, ( E ).\"", TextEdgeTest::ones);
        Check.test("\"NAMES are place .. all; further, .. not are KEYS\"", TextEdgeTest::namesAndKeys);
        Check.test("\"An E is an int (32 bits, wrapping)\"", TextEdgeTest::wrapping);
        Check.test("\"of or, and, not, <, = 1 or 0 (what is not 0 is true)\"", TextEdgeTest::truth);
        Check.test("FAULT: \"the text's size, if it ends too early\"", TextEdgeTest::endsTooEarly);
        Check.test("FAULT: \"a WORD that is neither KEY nor NAME, a NUMBER that is too long\"", TextEdgeTest::amid);
        Check.test("FAULT: \"a ( , a not, a - ahead of a ONE while 5 of these are open\"", TextEdgeTest::fiveOpen);
        Check.test("FAULT: \"(a ( till its ) , not and - till what they belong to ends)\"", TextEdgeTest::tillTheyEnd);
        Check.test("Promise 8, text: \"THE TAPE, which is empty then (by a FAULT, too)\"", TextEdgeTest::emptyThen);
        Check.test("Promise 8, text: \"empty then (by a FAULT, too)\": the next TEXT has nothing of it",
            TextEdgeTest::nothingIsLeft);
        Check.test("Promise 8, text: \"-100 less the place of its FAULT\"", TextEdgeTest::placesOfFaults);
        Check.test("\"There are 6 TEXTS at most, TEXT 0 with them\"; promise 8: \"its number\"", TextEdgeTest::sixTexts);
        Check.test("Promise 8, text: \"FULL (ahead of all): .. (THE TAPE stays)\"", TextEdgeTest::fullAheadOfAll);
        Check.test("Promise 9, force: \"A TEXT is THE RULE: which was. BAD.\"", TextEdgeTest::force);
        Check.end();
    }

    private static void bytes() {
        SevenInTheHay x = new SevenInTheHay();
        for (int letter : new int[] {-1, 256, MIN, MAX, 256 + 'a', -256 + 'a'}) {
            Check.due("feed(" + letter + ")", x.feed(letter), BAD);
            Check.due("count(2)", x.count(2), 0);
        }
        Check.due("feed(0)", x.feed(0), 1);
        Check.due("feed(255)", x.feed(255), 2);
        Check.due("text() of a byte 0", x.text(), -100);
        x.feed(32);
        x.feed(255);
        Check.due("text() of a blank and a byte 255", x.text(), -101);
    }

    private static void fullTape() {
        SevenInTheHay x = new SevenInTheHay();
        String tape = Texts.ofLength(Texts.LONGEST);
        for (int i = 0; i < Texts.LONGEST; i++) {
            Check.due("feed, byte " + (i + 1), x.feed(tape.charAt(i)), i + 1);
        }
        Check.due("feed(33), the 161st", x.feed('!'), FULL);
        Check.due("feed(-1), the 161st", x.feed(-1), BAD);
        Check.due("feed(256), the 161st", x.feed(256), BAD);
        Check.due("count(2)", x.count(2), 160);
        Check.due("text() of 160 bytes", x.text(), 1);
        Check.due("count(2) then", x.count(2), 0);
        Check.due("feed(32) then", x.feed(32), 1);
    }

    private static void asLongAsCanBe() {
        Texts.right("further1;passes1;pays1;");
        Texts.right("further 1or 2and 3;" + REST);
        Texts.right("further not(1)and-1;" + REST);
        Texts.fault("furtherplace;" + REST, 0);
        Texts.fault("further notplace;" + REST, 8);
        Texts.fault("further 1 orplace;" + REST, 10);
        Texts.fault("further place1;" + REST, 13);
        Texts.fault("further 1place;" + REST, 9);
        Texts.fault("further 99991;" + REST, 8);
        Texts.value("12", 12);
        Texts.value("1+23", 24);
    }

    // Between a 0 and a 0 each byte either joins them, or ends the first one, or can't stand there.
    private static void everyByte() {
        for (int b = 0; b < 256; b++) {
            String tape = "further 0" + (char) b + "0;" + REST;
            boolean isDigit = b >= '0' && b <= '9';
            if (isDigit || "+-*<=".indexOf(b) >= 0) {
                Texts.right(tape);
            } else {
                Texts.fault(tape, b == ' ' || b == '\n' || b == ';' ? 10 : 9);
            }
        }
    }

    // Just outside a .. z the WORD all ends and a byte stands behind it that begins none; inside it is another WORD.
    private static void words() {
        Texts.fault("further all`;" + REST, 11);
        Texts.fault("further alla;" + REST, 8);
        Texts.fault("further allz;" + REST, 8);
        Texts.fault("further all{;" + REST, 11);
        Texts.fault("further allA;" + REST, 11);
        Texts.fault("further allZ;" + REST, 11);
        Texts.fault("further a;" + REST, 8);
        Texts.fault("further z;" + REST, 8);
        Texts.fault("further furtherfurther;" + REST, 8);
    }

    private static void numbers() {
        Texts.value("0", 0);
        Texts.value("0000", 0);
        Texts.value("0009", 9);
        Texts.value("9999-9950", 49);
        Texts.value("9999=9998+1", 1);
        Texts.fault("further 00000;" + REST, 8);
        Texts.fault("further 10000;" + REST, 8);
        Texts.fault("further 99999;" + REST, 8);
        Texts.fault("further 9999999999999;" + REST, 8);
        Texts.fault("further 9999 9;" + REST, 13);
        Texts.fault("further 1/;" + REST, 9);
        Texts.fault("further 1:;" + REST, 9);
    }

    private static void blanks() {
        Texts.right(" \n further \n 0 \n ; \n passes \n 0 \n ; \n pays \n 1 \n ; \n ");
        Texts.right("further(1+2)*3<4 or place=-5 and not 6;passes 0;pays 1;");
        Texts.right("further ( 1 + 2 ) * 3 < 4 or place = - 5 and not 6 ;passes 0;pays 1;");
        Texts.fault("fur ther 0;" + REST, 0);
        Texts.fault("further 1 2;" + REST, 10);
        Texts.fault("further 1\n2;" + REST, 10);
        for (int b : new int[] {0, 9, 11, 13, 31, 33, 160}) {
            Texts.fault((char) b + "further 0;" + REST, 0);
            Texts.fault("further" + (char) b + "0;" + REST, 7);
            Texts.fault("further 0;" + REST + (char) b, 26);
        }
    }

    private static void wholeText() {
        Texts.right("further 0;passes 0;pays 1;");
        Texts.fault("passes 0;further 0;pays 1;", 0);
        Texts.fault("further 0;pays 1;passes 0;", 10);
        Texts.fault("further 0;passes 0;passes 0;", 19);
        Texts.fault("further 0;passes 0;pays 1;;", 26);
        Texts.fault("further 0;passes 0;pays 1;further 0;", 26);
        Texts.fault("further 0;passes 0;pays 1;0", 26);
        Texts.fault(";further 0;passes 0;pays 1;", 0);
        Texts.fault("further;passes 0;pays 1;", 7);
        Texts.fault("further 0;passes;pays 1;", 16);
        Texts.fault("further 0;passes 0;pays;", 23);
        Texts.fault("further 0 passes 0;pays 1;", 10);
        Texts.fault("further 0;passes 0 pays 1;", 19);
    }

    private static void orsAndAnds() {
        Texts.value("0 or 0 or 0 or 7", 1);
        Texts.value("1 and 2 and 3 and 0", 0);
        Texts.value("1 or 0 and 0", 1);
        Texts.value("0 and 0 or 1", 1);
        for (String key : new String[] {"or", "and"}) {
            int behind = 10 + key.length();
            Texts.fault("further " + key + " 1;" + REST, 8);
            Texts.fault("further 1 " + key + ";" + REST, behind);
            Texts.fault("further 1 " + key + " " + key + " 1;" + REST, behind + 1);
            Texts.fault("further 1+" + key + " 1;" + REST, 10);
        }
    }

    private static void nots() {
        Texts.value("not not not 7", 0);
        Texts.value("not 2<1", 1);
        Texts.value("1 and not 1=2", 1);
        Texts.value("1+1<2+1", 1);
        Texts.value("(1<2)<(2<1)", 0);
        Texts.value("not(1<2)<3", 0);
        Texts.fault("further 1<2<3;" + REST, 11);
        Texts.fault("further 1<2=3;" + REST, 11);
        Texts.fault("further 1=2=3;" + REST, 11);
        Texts.fault("further 1=2+3*4<5;" + REST, 15);
        Texts.fault("further not 1<2<3;" + REST, 15);
        Texts.fault("further (1<2<3);" + REST, 12);
        Texts.fault("further 1<(2)<3;" + REST, 13);
        Texts.right("further 1<2 and 2<3 or 3=4;" + REST);
        Texts.right("further (1<2)<3;" + REST);
        Texts.right("further 1<(2<3);" + REST);
        Texts.fault("further not;" + REST, 11);
        Texts.fault("further 1<not 2;" + REST, 10);
        Texts.fault("further 1=not 2;" + REST, 10);
        Texts.fault("further 1+not 2;" + REST, 10);
        Texts.fault("further 1-not 2;" + REST, 10);
        Texts.fault("further 1*not 2;" + REST, 10);
        Texts.fault("further -not 2;" + REST, 9);
        Texts.fault("further 1 not 2;" + REST, 10);
        Texts.fault("further <1;" + REST, 8);
        Texts.fault("further =1;" + REST, 8);
        Texts.fault("further 1==1;" + REST, 10);
        Texts.fault("further 1<=1;" + REST, 10);
    }

    private static void sums() {
        Texts.value("9-4-3", 2);
        Texts.value("9-4+3", 8);
        Texts.value("2*3*4", 24);
        Texts.value("2+3*4-1", 13);
        Texts.value("2*3+4*5", 26);
        Texts.fault("further +1;" + REST, 8);
        Texts.fault("further *1;" + REST, 8);
        Texts.fault("further 1+;" + REST, 10);
        Texts.fault("further 1-;" + REST, 10);
        Texts.fault("further 1*;" + REST, 10);
        Texts.fault("further 1+*2;" + REST, 10);
        Texts.fault("further 1-+2;" + REST, 10);
        Texts.fault("further 1**2;" + REST, 10);
    }

    private static void ones() {
        Texts.value("--5", 5);
        Texts.value("-(-(5))", 5);
        Texts.value("3--5", 8);
        Texts.value("3*-5", -15);
        Texts.value("-2*3+10", 4);
        Texts.value("(7)", 7);
        Texts.fault("further ();" + REST, 9);
        Texts.fault("further (1;" + REST, 10);
        Texts.fault("further (1;passes 0;pays 1;);", 10);
        Texts.fault("further 1);" + REST, 9);
        Texts.fault("further (1));" + REST, 11);
        Texts.fault("further ((1);" + REST, 12);
        Texts.fault("further )1(;" + REST, 8);
        Texts.fault("further 1(2);" + REST, 9);
        Texts.fault("further (1)2;" + REST, 11);
        Texts.fault("further (1)(2);" + REST, 11);
        Texts.fault("further -;" + REST, 9);
        Texts.fault("further ;" + REST, 8);
    }

    private static void namesAndKeys() {
        for (String name : new String[] {"place", "from", "step", "number", "left", "all"}) {
            Texts.right("further " + name + ";" + REST);
            Texts.fault(name + " 0;" + REST, 0);
            Texts.fault("further 0;" + name + " 0;pays 1;", 10);
            Texts.fault("further 0 " + name + ";" + REST, 10);
            Texts.fault("further " + name.substring(1) + ";" + REST, 8);
            Texts.fault("further " + name.substring(0, name.length() - 1) + ";" + REST, 8);
            Texts.fault("further x" + name.substring(1) + ";" + REST, 8);
            Texts.fault("further " + name + "s;" + REST, 8);
            Texts.fault("further 0;" + REST + name, 26);
        }
        for (String key : new String[] {"further", "passes", "pays", "or", "and"}) {
            Texts.fault("further " + key + ";" + REST, 8);
            Texts.fault("further 1+" + key + ";" + REST, 10);
        }
        for (String key : new String[] {"further", "passes", "pays", "not"}) {
            Texts.fault("further 1 " + key + " 1;" + REST, 10);
        }
        Texts.fault("further all;passe 0;pays 1;", 12);
        Texts.fault("further all;passes 0;pay 1;", 21);
    }

    private static void wrapping() {
        Texts.value(Texts.LEAST_INT, -99);
        Texts.value(Texts.MOST_INT, 99);
        Texts.value(MOST + "+1<0", 1);
        Texts.value(LEAST + "-1<0", 0);
        Texts.value(MOST + "+1=" + LEAST, 1);
        Texts.value("-" + LEAST + "=" + LEAST, 1);
        Texts.value("-" + MOST + "-1=" + LEAST, 1);
        Texts.value("0-" + LEAST + "<0", 1);
        Texts.value(LEAST + "<" + MOST, 1);
        Texts.value(MOST + "<" + LEAST, 0);
        Texts.value(LEAST + "+" + LEAST, 0);
        Texts.value(MOST + "+" + MOST, -2);
        Texts.value(MOST + "*" + MOST, 1);
        Texts.value(LEAST + "*2+5", 5);
        Texts.value("8192*8192*64", 0);
        Texts.value("8192*8192*64-7", -7);
    }

    private static void truth() {
        for (String e : new String[] {"1", "2", "-1", "9999", Texts.LEAST_INT, Texts.MOST_INT, "8192*8192"}) {
            Texts.value("(" + e + ") and 2", 1);
            Texts.value("2 and " + e, 1);
            Texts.value("0 or " + e, 1);
            Texts.value("(" + e + ") or 0", 1);
            Texts.value("not (" + e + ")", 0);
        }
        for (String e : new String[] {"0", "-0", "1-1", "8192*8192*64"}) {
            Texts.value("(" + e + ") and 2", 0);
            Texts.value("2 and " + e, 0);
            Texts.value("0 or " + e, 0);
            Texts.value("not (" + e + ")", 1);
        }
        Texts.value("5=5", 1);
        Texts.value("4=5", 0);
        Texts.value("4<5", 1);
        Texts.value("5<5", 0);
        Texts.value("6<5", 0);
        Texts.value("-1<0", 1);
    }

    // Cut amid a WORD, that is none; cut elsewhere, the text ends too early.
    private static void endsTooEarly() {
        String text = "further (place+12) ;\npasses not 1 < 2*3 ;pays -3 ;";
        for (int size = 0; size < text.length(); size++) {
            int at = size;
            if (isLetter(text, size)) {
                while (isLetter(text, at - 1)) {
                    at--;
                }
            }
            Texts.fault(text.substring(0, size), at);
        }
        Texts.right(text);
        Texts.fault("", 0);
        Texts.fault(" ", 1);
        Texts.fault("\n\n", 2);
        Texts.fault("further 0 ", 10);
        Texts.fault("further 0;passes 0;pays 1 \n ", 28);
        Texts.fault("further 1+(((((", 15);
    }

    private static boolean isLetter(String text, int at) {
        return at >= 0 && text.charAt(at) >= 'a' && text.charAt(at) <= 'z';
    }

    // The first of two faults is told, whichever they are.
    private static void amid() {
        Texts.fault("further 1+x;" + REST, 10);
        Texts.fault("further 1+12345;" + REST, 10);
        Texts.fault("further 1 12345;" + REST, 10);
        Texts.fault("further (1 x;" + REST, 11);
        Texts.fault("further 12345 x;" + REST, 8);
        Texts.fault("further x 12345;" + REST, 8);
        Texts.fault("further ((((((x;" + REST, 13);
        Texts.fault("further (((((x;" + REST, 13);
        Texts.fault("further 1;passes 2;pays 12345;", 24);
        Texts.fault("further 1;passes x;pays 12345;", 17);
        Texts.fault("x 12345 !", 0);
        Texts.fault("12345", 0);
        Texts.fault("!", 0);
    }

    private static void fiveOpen() {
        Texts.right("further (((((1)))));passes (((((1)))));pays (((((1)))));");
        Texts.fault("further ((((((1))))));" + REST, 13);
        Texts.fault("further (((((-1)))));" + REST, 13);
        Texts.fault("further (((((not 1)))));" + REST, 13);
        Texts.right("further -----1;passes -----1;pays -----1;");
        Texts.fault("further ------1;" + REST, 13);
        Texts.fault("further -----(1);" + REST, 13);
        Texts.right("further not not not not not 1;" + REST);
        Texts.fault("further not not not not not not 1;" + REST, 28);
        Texts.fault("further not not not not not -1;" + REST, 28);
        Texts.fault("further not not not not not (1);" + REST, 28);
        Texts.right("further not(not(-1));" + REST);
        Texts.fault("further not(not(--1));" + REST, 17);
        Texts.right("further not(-(not 1));" + REST);
        Texts.fault("further not(-(not(1)));" + REST, 17);
        // What isn't one of the three stands, however many are open.
        Texts.right("further (((((1-1+place*2<3 and 4 or 5)))));" + REST);
        Texts.fault("further (((((1--1)))));" + REST, 15);
        Texts.fault("further 0;passes ((((((1))))));pays 1;", 22);
        Texts.fault("further 0;passes 0;pays ------1;", 29);
    }

    private static void tillTheyEnd() {
        Texts.right("further (((((1)))))+(((((1)))));" + REST);
        Texts.right("further ((((1))+((1+(1)))*((1))));" + REST);
        Texts.right("further -----1*-----1;" + REST);
        Texts.right("further -----1------1;" + REST);
        Texts.right("further -----1<-----1;" + REST);
        Texts.right("further -----1 and-----1 or-----1;" + REST);
        Texts.right("further not not not not not 1 and not not not not not 1;" + REST);
        Texts.right("further not not not not not 1 or not not not not not 1;" + REST);
        Texts.right("further not 1 and(((((1)))));" + REST);
        Texts.right("further not 1<2 or(((((1)))));" + REST);
        Texts.right("further (not 1)+((((1))));" + REST);
        Texts.right("further (not 1)+(((((1)))));" + REST);
        Texts.right("further ((((not 1)))) and -----1;" + REST);
        // Not ends behind the whole comparison, - behind its ONE.
        Texts.right("further not 1<((((1))));" + REST);
        Texts.fault("further not 1<(((((1)))));" + REST, 18);
        Texts.fault("further not 1+(((((1)))));" + REST, 18);
        Texts.fault("further not 1*-----1;" + REST, 18);
        Texts.right("further -1<(((((1)))));" + REST);
        Texts.right("further -1*(((((1)))));" + REST);
        Texts.fault("further -(((((1)))));" + REST, 13);
        Texts.fault("further (1+(1+(1+(1+(1+(1))))));" + REST, 23);
    }

    private static void emptyThen() {
        SevenInTheHay x = new SevenInTheHay();
        Check.due("text() of the empty TAPE", x.text(), -100);
        Check.due("text() of the empty TAPE again", x.text(), -100);
        Check.due("a FAULT", Check.text(x, "further 0;passes 0;pays 1;!"), -126);
        Check.due("count(2) behind the FAULT", x.count(2), 0);
        Check.due("a FAULT while five are open", Check.text(x, "further 1 or(((((!"), -117);
        Check.due("a right one", Check.text(x, "further (((((0)))));passes 0;pays 2;"), 1);
        Check.due("count(2) behind the right one", x.count(2), 0);
        Check.due("text() of nothing more", x.text(), -100);
        Check.due("a part", Check.text(x, "further 0;"), -110);
        Check.due("the rest alone", Check.text(x, REST), -100);
        Check.due("count(1)", x.count(1), 2);
        Check.due("a full TAPE that faults", Check.text(x, Texts.padded("further", 160)), -260);
        Check.due("feed(32) then", x.feed(32), 1);
    }

    // What faulted was read further than the right text goes: there - or not stood where that one ends.
    private static void nothingIsLeft() {
        String[] faulty = {
            "further 1;passes 1;pays -1;!", "further 1;passes 1;pays not 1;!", "further 1;passes 1;pays 1+2+3*4;!",
            "further -1;passes -1;pays -1+2;!", "further not 1;passes 1<2;pays 1<2;!", "further 1+2*3+4 and 5 or 6;!"
        };
        for (String tape : faulty) {
            SevenInTheHay x = Check.ring(0);
            Check.due("text() of " + tape, Check.text(x, tape), -100 - tape.indexOf('!'));
            Check.rule(x, "further 0;passes 0;pays 5;");
            Check.due("worth behind " + tape, x.round(0, 2), 5);
            Check.round(x, 0, 0, 0);
        }
    }

    private static void placesOfFaults() {
        Texts.fault("!", 0);
        Texts.fault(" !", 1);
        Texts.fault(Texts.padded("further 0;" + REST, 159) + "!", 159);
        Texts.fault(Texts.padded("further 0;" + REST, 159) + "0", 159);
        Texts.fault(Texts.padded("further 0;passes 0;pays 1", 160), 160);
        Texts.fault(Texts.padded("", 160), 160);
        Texts.right(Texts.padded("further 0;" + REST, 160));
        Texts.right(Texts.padded("further 0;passes 0;pays 1", 159) + ";");
    }

    private static void sixTexts() {
        SevenInTheHay x = Check.ring(0);
        Check.due("count(1), TEXT 0", x.count(1), 1);
        for (int i = 1; i < 6; i++) {
            Check.due("a FAULT takes no room", Check.text(x, "further"), -107);
            Check.due("count(1)", x.count(1), i);
            Check.due("text " + i, Check.text(x, "further 0;passes 0;pays 1" + i + ";"), i);
        }
        Check.due("count(1), all", x.count(1), 6);
        Check.due("one more", Check.text(x, "further 0;passes 0;pays 16;"), FULL);
        Check.due("count(1), all still", x.count(1), 6);
        for (int i = 0; i < 6; i++) {
            x.force(i);
            Check.due("worth by text " + i, x.round(0, 2), i == 0 ? 1 : 10 + i);
        }
    }

    private static void fullAheadOfAll() {
        SevenInTheHay x = new SevenInTheHay();
        for (int i = 1; i < 6; i++) {
            Check.text(x, "further 0;passes 0;pays 1;");
        }
        Check.due("text() of nothing", x.text(), FULL);
        Check.due("count(2)", x.count(2), 0);
        Check.due("text() of what would be a FAULT", Check.text(x, "further !"), FULL);
        Check.due("count(2)", x.count(2), 9);
        Check.due("feed(32)", x.feed(32), 10);
        Check.due("text() again", x.text(), FULL);
        Check.due("count(2)", x.count(2), 10);
        for (int i = 11; i <= 160; i++) {
            Check.due("feed(32)", x.feed(32), i);
        }
        Check.due("text() of a full TAPE", x.text(), FULL);
        Check.due("feed(32), the 161st", x.feed(32), FULL);
        Check.due("count(2)", x.count(2), 160);
    }

    private static void force() {
        SevenInTheHay x = new SevenInTheHay();
        for (int text : new int[] {-1, 1, 5, 6, MIN, MAX}) {
            Check.due("force(" + text + "), TEXT 0 alone", x.force(text), BAD);
        }
        Check.due("force(0)", x.force(0), 0);
        for (int i = 1; i < 6; i++) {
            Check.text(x, "further 0;passes 0;pays 1;");
            Check.due("force(" + (i + 1) + "), none such", x.force(i + 1), BAD);
            Check.due("force(" + i + "), the last", x.force(i), i - 1);
            Check.due("count(3)", x.count(3), i);
        }
        Check.due("force(-1)", x.force(-1), BAD);
        Check.due("force(6)", x.force(6), BAD);
        Check.due("count(3)", x.count(3), 5);
        Check.due("force(5), as it was", x.force(5), 5);
        Check.due("force(0)", x.force(0), 5);
    }
}
