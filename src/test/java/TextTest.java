/** Promises 7 to 9. */
public final class TextTest {
    private static final int BAD = SevenInTheHay.BAD, FULL = SevenInTheHay.FULL;

    public static void main(String[] args) {
        feed();
        rightTexts();
        faults();
        openOnes();
        emptyTape();
        room();
        values();
        wrapping();
        names();
        force();
        Check.end();
    }

    private static void feed() {
        SevenInTheHay x = new SevenInTheHay();
        Check.due("feed(-1)", x.feed(-1), BAD);
        Check.due("feed(256)", x.feed(256), BAD);
        for (int i = 1; i <= 160; i++) {
            Check.due("feed as number " + i, x.feed(i % 2 == 0 ? 0 : 255), i);
        }
        Check.due("feed(0), the 161st", x.feed(0), FULL);
        Check.due("feed(256), the 161st", x.feed(256), BAD);
        Check.due("count(2)", x.count(2), 160);
    }

    private static void rightTexts() {
        Texts.right("further 0 ; passes 0 ; pays 1 ;");
        Texts.right("further0;passes0;pays1;");
        Texts.right("\n further\n0 ;passes 0;pays 1; \n ");
        Texts.right("further 0000;passes 9999;pays number;");
        Texts.right("further not not place<from and step=number or left+all*2-1;passes(((((1)))));pays-----1;");
        Texts.right("further not(all);passes 1 - -1;pays 1<2 and not 3=4;");
        Texts.right("further not 1 and not 1 and not 1 and not 1 and not 1 and not 1;passes 0;pays 0;");
        Texts.right("further -1*-1*-1*-1*-1*-1--1;passes(1)*(1)*(1)*(1)*(1)*(1);pays 1;");
        Texts.right(Texts.ofLength(Texts.LONGEST));
    }

    private static void faults() {
        Texts.fault("", 0);
        Texts.fault("  ", 2);
        Texts.fault("passes 0;", 0);
        Texts.fault(" or", 1);
        Texts.fault("Further 0;", 0);
        Texts.fault("furthe 0;", 0);
        Texts.fault("furtherr 0;", 0);
        Texts.fault("further", 7);
        Texts.fault("further ", 8);
        Texts.fault("further ;", 8);
        Texts.fault("further 0", 9);
        Texts.fault("further 0 passes", 10);
        Texts.fault("further 0;", 10);
        Texts.fault("further 0;;", 10);
        Texts.fault("further 0;pays 0;", 10);
        Texts.fault("further 0;passes 0;", 19);
        Texts.fault("further 0;passes 0;pays 1", 25);
        Texts.fault("further 0;passes 0;pays 1;;", 26);
        Texts.fault("further 0;passes 0;pays 1; 0", 27);
        Texts.fault("further 0;passes 0;pays 1;place", 26);
        Texts.fault("further 0;passes 0;pays 1; further 0;", 27);
        Texts.fault("further 0;passes 0;pays 1;\t", 26);
        Texts.fault("further 12345;", 8);
        Texts.fault("further 00000;", 8);
        Texts.fault("further 1 2;", 10);
        Texts.fault("further 1 12345;", 10);
        Texts.fault("further 1x;", 9);
        Texts.fault("further x1;", 8);
        Texts.fault("further pays;", 8);
        Texts.fault("further bll;", 8);
        Texts.fault("further allz;", 8);
        Texts.fault("further further;", 8);
        Texts.fault("further lefts;", 8);
        Texts.fault("further lef;", 8);
        Texts.fault("further left left;", 13);
        Texts.fault("further (1;", 10);
        Texts.fault("further 1);", 9);
        Texts.fault("further ();", 9);
        Texts.fault("further (1", 10);
        Texts.fault("further 1+;", 10);
        Texts.fault("further +1;", 8);
        Texts.fault("further 1+*2;", 10);
        Texts.fault("further 1<2<3;", 11);
        Texts.fault("further 1<2=3;", 11);
        Texts.fault("further 1=2<3;", 11);
        Texts.fault("further not 1<2<3;", 15);
        Texts.fault("further 1<;", 10);
        Texts.fault("further 1 not 2;", 10);
        Texts.fault("further 1+not 2;", 10);
        Texts.fault("further 1*not 2;", 10);
        Texts.fault("further 1<not 2;", 10);
        Texts.fault("further -not 2;", 9);
        Texts.fault("further not;", 11);
        Texts.fault("further or 1;", 8);
        Texts.fault("further 1 or or 1;", 13);
        Texts.fault("further 1 and;", 13);
        Texts.fault("further 1 or and 1;", 13);
        Texts.fault("further 1 > 2;", 10);
        Texts.fault("further 1 # x;", 10);
        Texts.fault("further \r1;", 8);
        Texts.fault("further 1;passes 0; pays !", 25);
        Texts.fault("further 1;\0", 10);
        Texts.fault("further 1;\u00ff", 10);
    }

    // 5 may be open, a 6th is a fault: of ( , not, - and of all of them together.
    private static void openOnes() {
        Texts.right("further (((((1)))));passes 0;pays 0;");
        Texts.fault("further ((((((1))))));passes 0;pays 0;", 13);
        Texts.right("further -----1;passes 0;pays 0;");
        Texts.fault("further ------1;passes 0;pays 0;", 13);
        Texts.right("further not not not not not 1;passes 0;pays 0;");
        Texts.fault("further not not not not not not 1;passes 0;pays 0;", 28);
        Texts.right("further not(-(not 1));passes 0;pays 0;");
        Texts.fault("further not(-(not -(1)));passes 0;pays 0;", 18);
        Texts.fault("further not(-(not(-1)));passes 0;pays 0;", 17);
        Texts.fault("further not 1<((((-1))));passes 0;pays 0;", 18);
        Texts.right("further (not 1)and((((-1))));passes 0;pays 0;");
        Texts.right("further not 1 and((((-1))));passes 0;pays 0;");
        Texts.right("further -1+((((-1))));passes 0;pays 0;");
        Texts.fault("further (-1+((((-1)))));passes 0;pays 0;", 16);
        Texts.right("further -1*((((-1))))or-----1;passes(((((1)))));pays -----1;");
        Texts.fault("further -(((((1)))));passes 0;pays 0;", 13);
    }

    private static void emptyTape() {
        SevenInTheHay x = new SevenInTheHay();
        Check.due("a text", Check.text(x, "further 0;passes 0;pays 1;"), 1);
        Check.due("count(2) then", x.count(2), 0);
        Check.due("feed(32) then", x.feed(32), 1);
        Check.due("text() of a blank", x.text(), -101);
        Check.due("text() of nothing", x.text(), -100);
        Check.due("the next text", Check.text(x, "further 0;passes 0;pays 1;"), 2);
        Check.due("a fault amid open ones", Check.text(x, "further 1 or(((((1"), -118);
        Check.due("a text then", Check.text(x, "further(((((1)))));passes 0;pays 1;"), 3);
    }

    private static void room() {
        SevenInTheHay x = new SevenInTheHay();
        for (int i = 1; i <= 5; i++) {
            Check.due("text " + i, Check.text(x, "further " + i + ";passes 0;pays 1;"), i);
            Check.due("count(1)", x.count(1), i + 1);
        }
        Check.due("text() of nothing, full", x.text(), FULL);
        Check.due("a text more", Check.text(x, "further 0;passes 0;pays 1;"), FULL);
        Check.due("count(2), the tape stays", x.count(2), 26);
        Check.due("count(1)", x.count(1), 6);
        Check.due("force(5)", x.force(5), 0);
    }

    private static void values() {
        Texts.value("0", 0);
        Texts.value("99", 99);
        Texts.value("100", 99);
        Texts.value("-99", -99);
        Texts.value("-100", -99);
        Texts.value("9999", 99);
        Texts.value("0012", 12);
        Texts.value("2+3*4", 14);
        Texts.value("(2+3)*4", 20);
        Texts.value("20-3-4", 13);
        Texts.value("20-(3-4)", 21);
        Texts.value("2--3", 5);
        Texts.value("-2*-3", 6);
        Texts.value("-2*3", -6);
        Texts.value("-(2+3)", -5);
        Texts.value("1<2", 1);
        Texts.value("2<2", 0);
        Texts.value("3<2", 0);
        Texts.value("2=2", 1);
        Texts.value("2=3", 0);
        Texts.value("1+1=2", 1);
        Texts.value("7*(3<4)", 7);
        Texts.value("5 and 7", 1);
        Texts.value("5 and 0", 0);
        Texts.value("0 and 7", 0);
        Texts.value("5 or 0", 1);
        Texts.value("0 or -7", 1);
        Texts.value("0 or 0", 0);
        Texts.value("not 0", 1);
        Texts.value("not 5", 0);
        Texts.value("not -5", 0);
        Texts.value("not not 5", 1);
        Texts.value("not 1=2", 1);
        Texts.value("not 2<1 and 0", 0);
        Texts.value("not (2<1 and 0)", 1);
        Texts.value("not 0 and 0", 0);
        Texts.value("1 or 1 and 0", 1);
        Texts.value("(1 or 1) and 0", 0);
        Texts.value("0 and 0 or 1", 1);
        Texts.value("1<2 and 2<3", 1);
        Texts.value("5", 5);
        Texts.value("(5)", 5);
        Texts.value("0-5-5<0", 1);
    }

    // 9999 * 9999 * 9999 is 999700029999, of which 32 bits are -1027349969.
    private static void wrapping() {
        Texts.value("9999*9999*9999<0", 1);
        Texts.value("9999*9999*9999+9999*9999*10+9999*2755+2714", 0);
        Texts.value("9999*9999*9999+9999*9999*10+9999*2755+2721", 7);
        Texts.value("9999*9999*21+9999*9999<0", 1);
        Texts.value("0-9999*9999*21-9999*9999<0", 0);
    }

    // From 2 on: 2, 4, 0, 1. Each text pays the name's value as it is turned, so WORTH is their sum.
    private static void names() {
        named("place", 2 + 4 + 0 + 1);
        named("from", 2 + 2 + 4 + 0);
        named("step", 0 + 1 + 2 + 3);
        named("number", 2 + 1 + 1 + 8);
        named("left", 4 + 3 + 2 + 1);
        named("all", 20);
        named("(step=0)*(10*from+place)", 22);
        named("(step=1)*(10*from+place)", 24);
        named("(step=3)*(10*left+number)", 18);
    }

    private static void named(String e, int due) {
        SevenInTheHay x = Check.ring(1, 8, 2, 9, 1);
        Check.rule(x, "further 0;passes 0;pays " + e + ";");
        Check.due("long", x.round(2, 1), 4);
        Check.due("worth, paying " + e, x.round(2, 2), due);
    }

    private static void force() {
        SevenInTheHay x = new SevenInTheHay();
        Check.due("force(1) of none such", x.force(1), BAD);
        Check.due("force(-1)", x.force(-1), BAD);
        Check.due("force(0)", x.force(0), 0);
        Check.text(x, "further 1;passes 0;pays 2;");
        Check.text(x, "further 2;passes 0;pays 3;");
        Check.due("force(2)", x.force(2), 0);
        Check.due("count(3)", x.count(3), 2);
        Check.due("force(1)", x.force(1), 2);
        Check.due("force(3)", x.force(3), BAD);
        Check.due("count(3) still", x.count(3), 1);
        x.card(0, 0);
        Check.due("worth by text 1", x.round(0, 2), 2);
        Check.due("force(0) then", x.force(0), 1);
        Check.due("worth by text 0", x.round(0, 2), 1);
    }
}
