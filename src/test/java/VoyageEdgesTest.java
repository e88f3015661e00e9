/** The boundary cases of the document's Terms, of its section 1 and of promises 1 to 8, sentence by sentence. */
public final class VoyageEdgesTest {
    private static final Check CHECK = new Check("VoyageEdgesTest");
    private static final int UNKNOWN = BottomryLoans.UNKNOWN;
    private static final int OUTSIDE = BottomryLoans.OUTSIDE;
    private static final int NOT = BottomryLoans.NOT;
    private static final int FULL = BottomryLoans.FULL;
    private static final int NONE = BottomryLoans.NONE;
    private static final int MOST = Integer.MAX_VALUE;
    private static final int LEAST = Integer.MIN_VALUE;

    /** A good ship of nine letters, to have clauses behind it. */
    private static final String SHIP = "s1 0 0 0;";

    public static void main(String[] args) {
        terms();
        shipNumbers();
        legNumbers();
        lenderNumbers();
        howMany();
        numbersAndWords();
        blanks();
        places();
        faultOne();
        faultTwo();
        faultThree();
        emptyTexts();
        newObject();
        feed();
        voyage();
        voyageWithFault();
        fault();
        told();
        leg();
        lender();
        loan();
        CHECK.finish();
    }

    private static void due(String call, long got, long want) {
        CHECK.due(call, got, want);
    }

    private static void sentence(String words) {
        CHECK.sentence(words);
    }

    /** A text is read by a new object: what voyage() and then fault() answer. */
    private static void read(String text, int want, int place) {
        BottomryLoans x = new BottomryLoans();
        Check.feed(x, text);
        due("'" + text + "' voyage()", x.voyage(), want);
        due("'" + text + "' fault()", x.fault(), place);
    }

    private static void good(String text, int legs) {
        read(text, legs, NONE);
    }

    private static void terms() {
        sentence("All numbers are whole; / cuts towards 0.");
        BottomryLoans x = Check.on("s1 0 9 0;l1 0 1;m999 99;m999 50;m999 1;");
        due("borrow(0, 1): 1 and 0.99", x.borrow(0, 1, false), 0);
        due("loan(0, 3)", x.loan(0, 3), 1);
        x.borrow(1, 3, false);
        due("3 and 1.5: loan(1, 3)", x.loan(1, 3), 4);
        x.borrow(2, 99, false);
        due("99 and 0.99: loan(2, 3)", x.loan(2, 3), 99);
        x.borrow(2, 100, false);
        due("100 and 1: loan(3, 3)", x.loan(3, 3), 101);
        sentence("What has a number has it from 0 on, as it comes.");
        BottomryLoans y = Check.on("s1 0 9 0;m7 1;l1 0 1;m8 2;l2 0 1;");
        due("leg(0, 0)", y.leg(0, 0), 1);
        due("leg(1, 0)", y.leg(1, 0), 2);
        due("lender(0, 0)", y.lender(0, 0), 7);
        due("lender(1, 0)", y.lender(1, 0), 8);
        due("the first loan", y.borrow(1, 3, true), 0);
        due("the second loan", y.borrow(0, 3, false), 1);
        sentence("A SET is a whole number, bit k for k.");
        BottomryLoans z = Check.on("s1 0 9 0;m1 0;m1 1;m1 2;m1 3;m1 4;");
        due("willing(), bits 0 to 4", z.willing(), 31);
        BottomryLoans w = Check.on("s1 0 9 0;l1 0 1;m1 0;m1 1;m1 2;m1 3;m1 4;");
        due("willing(), bits 2 to 4", w.willing(), 28);
        sentence("NONE is -1.");
        due("NONE", NONE, -1);
        sentence("They are far below all that is counted: -1000000001 and on.");
        due("UNKNOWN", UNKNOWN, -1000000001);
        due("OUTSIDE", OUTSIDE, -1000000002);
        due("NOT", NOT, -1000000003);
        due("FULL", FULL, -1000000004);
        sentence("MILLION is 1000000.");
        due("comesHome() at home", Check.on("s1 0 0 0;").comesHome(), 1000000);
    }

    private static void shipNumbers() {
        sentence("THE SHIP is worth W, 1 .. 999, its FREIGHT F, 0 .. 999, if she comes home; STATE T 0 .. 9; PURSE P 0 .. 999; first, once");
        read("s0 0 0 0;", -12, 1);
        good("s1 0 0 0;", 0);
        good("s999 0 0 0;", 0);
        read("s1000 0 0 0;", -12, 1);
        good("s5 999 0 0;", 0);
        read("s5 1000 0 0;", -12, 3);
        good("s5 0 9 0;", 0);
        read("s5 0 10 0;", -12, 5);
        read("s5 0 99 0;", -12, 5);
        good("s5 0 0 999;", 0);
        read("s5 0 0 1000;", -12, 7);
        BottomryLoans least = Check.on("s1 0 0 0;");
        BottomryLoans most = Check.on("s999 999 9 999;");
        int[] leastWant = {1, 0, 0, 0};
        int[] mostWant = {999, 999, 9, 999};
        for (int what = 0; what < 4; what++) {
            due("least: told(" + what + ")", least.told(what), leastWant[what]);
            due("most: told(" + what + ")", most.told(what), mostWant[what]);
        }
        read("l0 0 1;s1 0 0 0;", -11, 0);
        read("m0 0;s1 0 0 0;", -11, 0);
        read("s1 0 0 0;s1 0 0 0;", -13, 9);
    }

    private static void legNumbers() {
        sentence("'l' Q D C ';' (7 LEGS at most, one behind the other: lost by Q of a hundred, 0 .. 99, and D more, 0 .. 9, for each of 9 less STATE (100 at most); in the port ahead of it one repairs by C a point of STATE, 1 .. 99)");
        good(SHIP + "l0 0 1;", 1);
        good(SHIP + "l99 9 99;", 1);
        read(SHIP + "l100 0 1;", -12, 10);
        read(SHIP + "l0 10 1;", -12, 12);
        read(SHIP + "l0 0 0;", -12, 14);
        read(SHIP + "l0 0 100;", -12, 14);
        BottomryLoans x = Check.on("s1 0 0 200;l99 9 99;l0 0 1;l19 9 1;l18 9 1;l20 9 1;l10 0 1;");
        due("l99 9 99: leg(0, 0)", x.leg(0, 0), 99);
        due("l99 9 99: leg(0, 1)", x.leg(0, 1), 9);
        due("l99 9 99: leg(0, 2)", x.leg(0, 2), 99);
        due("state 0, 180: leg(0, 3)", x.leg(0, 3), 100);
        due("state 0, nothing: leg(1, 3)", x.leg(1, 3), 0);
        due("state 0, 19 and 81: leg(2, 3)", x.leg(2, 3), 100);
        due("state 0, 18 and 81: leg(3, 3)", x.leg(3, 3), 99);
        due("state 0, 20 and 81: leg(4, 3)", x.leg(4, 3), 100);
        due("state 0, 10 and 0: leg(5, 3)", x.leg(5, 3), 10);
        x.repair(1);
        due("state 1, 20 and 72: leg(4, 3)", x.leg(4, 3), 92);
        BottomryLoans nine = Check.on("s1 0 9 0;l99 9 1;l0 9 1;");
        due("state 9: leg(0, 3)", nine.leg(0, 3), 99);
        due("state 9: leg(1, 3)", nine.leg(1, 3), 0);
        BottomryLoans ports = Check.on("s1 0 0 110;l0 0 99;l0 0 11;");
        ports.repair(1);
        due("99 in the first port: told(3)", ports.told(3), 11);
        ports.sail(true);
        ports.repair(1);
        due("11 in the second port: told(3)", ports.told(3), 0);
    }

    private static void lenderNumbers() {
        sentence("'m' A R ';' (5 LENDERS at most: each has A in all, 0 .. 999, asks R in the hundred, 0 .. 200).");
        BottomryLoans x = Check.on(SHIP + "l0 0 1;m0 0;m999 200;");
        due("lender(0, 0)", x.lender(0, 0), 0);
        due("lender(0, 1)", x.lender(0, 1), 0);
        due("lender(1, 0)", x.lender(1, 0), 999);
        due("lender(1, 1)", x.lender(1, 1), 200);
        due("he has nothing: borrow(0, 1)", x.borrow(0, 1, false), NOT);
        due("in all: borrow(1, 500)", x.borrow(1, 500, false), 0);
        due("in all: borrow(1, 500)", x.borrow(1, 500, false), NOT);
        due("in all: borrow(1, 499)", x.borrow(1, 499, false), 1);
        read(SHIP + "m1000 0;", -12, 10);
        read(SHIP + "m0 201;", -12, 12);
        read(SHIP + "m0 1000;", -12, 12);
    }

    private static void howMany() {
        sentence("(220 letters at most)");
        String text = SHIP + "l0 0 1;".repeat(7) + "m0 0;".repeat(5);
        good(text + " ".repeat(220 - text.length()), 7);
        String numbers = "s001 000 000 000 ;" + "l00 00 01; ".repeat(7) + "m000  000; ".repeat(5);
        good(numbers + " ".repeat(220 - numbers.length()), 7);
        read(" ".repeat(219) + "s", -11, 220);
        read(" ".repeat(219) + "l", -11, 219);
        sentence("7 LEGS at most");
        good(SHIP + "l0 0 1;".repeat(6), 6);
        good(SHIP + "l0 0 1;".repeat(7), 7);
        read(SHIP + "l0 0 1;".repeat(8), -13, 9 + 7 * 7);
        sentence("5 LENDERS at most");
        good(SHIP + "m0 0;".repeat(5), 0);
        due("told(5)", Check.on(SHIP + "m0 0;".repeat(5)).told(5), 5);
        due("told(5)", Check.on(SHIP + "m0 0;".repeat(4)).told(5), 4);
        read(SHIP + "m0 0;".repeat(6), -13, 9 + 5 * 5);
    }

    private static void numbersAndWords() {
        sentence("NUMBERS have one to three figures;");
        due("s007: told(0)", Check.on("s007 0 0 0;").told(0), 7);
        due("s70: told(0)", Check.on("s70 0 0 0;").told(0), 70);
        due("s107: told(0)", Check.on("s107 0 0 0;").told(0), 107);
        due("009: told(2)", Check.on("s1 0 009 0;").told(2), 9);
        due("s1 234 0 567: told(1)", Check.on("s1 234 0 567;").told(1), 234);
        due("s1 234 0 567: told(3)", Check.on("s1 234 0 567;").told(3), 567);
        due("s1 890 0 0: told(1)", Check.on("s1 890 0 0;").told(1), 890);
        read("s0001 0 0 0;", -12, 1);
        read("s1 0000 0 0;", -12, 3);
        read("s1 0 0009 0;", -12, 5);
        read("s; 0 0 0;", -11, 1);
        // the signs just beside the figures are none
        read("s1/ 0 0 0;", -11, 2);
        read("s1: 0 0 0;", -11, 2);
        read("s/ 0 0 0;", -11, 1);
        read("s: 0 0 0;", -11, 1);
        read("s+1 0 0 0;", -11, 1);
        read("s1.0 0 0 0;", -11, 2);
        sentence("a word is one letter;");
        read("ss1 0 0 0;", -11, 1);
        read(SHIP + "ll0 0 1;", -11, 10);
        read(SHIP + "mm0 0;", -11, 10);
        read(SHIP + "lm0 0;", -11, 10);
        read("S1 0 0 0;", -11, 0);
        read(SHIP + "L0 0 1;", -11, 9);
        read(SHIP + "M0 0;", -11, 9);
        read(SHIP + "k0 0 1;", -11, 9);
        read(SHIP + "n0 0;", -11, 9);
        read("r1 0 0 0;", -11, 0);
        read("t1 0 0 0;", -11, 0);
    }

    private static void blanks() {
        sentence("blanks (32) may stand anywhere but within NUMBERS;");
        good("  s  1  0  0  0  ;  l  0  0  1  ;  m  0  0  ;  ", 1);
        due("told(0)", Check.on("   s   12   34   5   67   ;").told(0), 12);
        due("told(3)", Check.on("   s   12   34   5   67   ;").told(3), 67);
        read("s1 2 0 0 0;", -11, 9);
        read("s 1 0 0 0 0 ;", -11, 10);
        // 9, 10, 13, 31, 33 and 160 are no blanks
        for (int sign : new int[] {9, 10, 13, 31, 33, 160}) {
            read("" + (char) sign, -11, 0);
            read((char) sign + SHIP, -11, 0);
            read("s1" + (char) sign + "0 0 0;", -11, 2);
            read("s" + (char) sign + "1 0 0 0;", -11, 1);
            read("s1 0 0 0" + (char) sign + ";", -11, 8);
            read(SHIP + (char) sign, -11, 9);
        }
        sentence("two NUMBERS side by side need one.");
        good(SHIP + "l10 2 3;", 1);
        read(SHIP + "l102 3;", -12, 10);
        read(SHIP + "l1 023;", -12, 12);
        read(SHIP + "m1020;", -12, 10);
        read(SHIP + "m102;", -11, 13);
        good("s1 0 0 0;m1 0;", 0);
        due("nothing is needed beside a word: told(4)", Check.on("s1 0 0 0;l0 0 1;l0 0 1;m0 0;").told(4), 2);
    }

    private static void places() {
        sentence("FAULTS, at the first letter that has one (the end at the text's length), of these the least:");
        read("s0 0 0 x", -12, 1);
        read("s0 1000 10 1000", -12, 1);
        read("s1 1000 10 1000;", -12, 3);
        read("s1 x 1000", -11, 3);
        read("x s0", -11, 0);
        read("s1 0 0 0;s0 0 0 0;x", -13, 9);
        // the end, behind blanks too
        read("s", -11, 1);
        read("s ", -11, 2);
        read("s1", -11, 2);
        read("s1  ", -11, 4);
        read("s1 0 0 0", -11, 8);
        read("s1 0 0 0  ", -11, 10);
        read(SHIP + "l", -11, 10);
        read(SHIP + "l0 0 1", -11, 15);
        read(SHIP + "m0", -11, 11);
        read(SHIP + "m0 0 ", -11, 14);
        String open = SHIP + "m0 0";
        read(open + " ".repeat(220 - open.length()), -11, 220);
        // an 's' where a number is due cannot stand there (1) and is there again (3)
        read("s1 s", -11, 3);
        read("s1 0 0 0 s", -11, 9);
        read(SHIP + "l0 s", -11, 12);
        // four figures (2) where none can stand (1)
        read("1000", -11, 0);
        read("s1 0 0 0 1000;", -11, 9);
        read(SHIP + "1000", -11, 9);
        read(SHIP + "m0 0 1000;", -11, 14);
        // an eighth 'l', a sixth 'm' (3) where a number is due (1)
        read(SHIP + "l0 0 1;".repeat(6) + "l0 0 l", -11, 9 + 42 + 5);
        read(SHIP + "m0 0;".repeat(4) + "m0 m", -11, 9 + 20 + 3);
    }

    private static void faultOne() {
        sentence("1 it cannot stand there (a letter that is no word, another word first than 's').");
        for (int sign : new int[] {0, 31, 33, '0', '9', ';', 'S', 'k', 'n', 'r', 't', 127, 128, 254, 255}) {
            read("" + (char) sign, -11, 0);
            read(SHIP + (char) sign, -11, 9);
        }
        read("l", -11, 0);
        read("m", -11, 0);
        read("  l0 0 1;", -11, 2);
        read("s1 0 0;", -11, 6);
        read("s1 0 0 0 0;", -11, 9);
        read("s1 0 0 0l0 0 1;", -11, 8);
        read(SHIP + ";", -11, 9);
        read(SHIP + "l0 0;", -11, 13);
        read(SHIP + "l0 0 1 0;", -11, 16);
        read(SHIP + "m0;", -11, 11);
        read(SHIP + "m0 0 0;", -11, 14);
        // letters that a number's sign would be taken from, were they not told apart
        read("s" + (char) 256 + "1 0 0 0;", 0, NONE);
        read("s" + (char) ('0' + 128) + " 0 0 0;", -11, 1);
    }

    private static void faultTwo() {
        sentence("2 a NUMBER of four figures or more, or out of its bounds (at its first).");
        read("s0000 0 0 0;", -12, 1);
        read("s 1234 0 0 0;", -12, 2);
        read("s1 0 0 12345;", -12, 7);
        read("s1 0 0 4294967297;", -12, 7);
        read("s1 0 0 18446744073709551617;", -12, 7);
        read("s" + "0".repeat(218) + "1", -12, 1);
        read("s" + "9".repeat(219), -12, 1);
        read("s000 0 0 0;", -12, 1);
        read(SHIP + "l 0100 0 1;", -12, 11);
        read(SHIP + "l0 0 00;", -12, 14);
        read(SHIP + "l0 0 000;", -12, 14);
        read(SHIP + "m0 0201;", -12, 12);
        read("s1000", -12, 1);
        read("s1000x", -12, 1);
    }

    private static void faultThree() {
        sentence("3 's' again, an eighth 'l', a sixth 'm' (at it).");
        read(SHIP + "s", -13, 9);
        read(SHIP + "  s", -13, 11);
        read(SHIP + "l0 0 1;m0 0;s1 0 0 0;", -13, 21);
        read(SHIP + "l0 0 1;".repeat(7) + "l", -13, 58);
        read(SHIP + "l0 0 1;".repeat(7) + " lx", -13, 59);
        read(SHIP + "l0 0 1;".repeat(7) + "m0 0;l0 0 1;", -13, 63);
        read(SHIP + "m0 0;".repeat(5) + "m", -13, 34);
        read(SHIP + "m0 0;".repeat(5) + "l0 0 1; m9999", -13, 42);
    }

    private static void emptyTexts() {
        sentence("An empty text (or one of blanks alone) has no FAULT: no SHIP.");
        for (String text : new String[] {"", " ", "   ", " ".repeat(220)}) {
            BottomryLoans x = Check.on("s200 60 5 10;l10 1 8;m150 30;");
            x.borrow(0, 10, false);
            Check.feed(x, text);
            due("voyage() of " + text.length() + " blanks", x.voyage(), 0);
            due("fault()", x.fault(), NONE);
            for (int what = 0; what <= 14; what++) {
                due("no ship: told(" + what + ")", x.told(what), what == 9 ? 1 : 0);
            }
            due("no ship: comesHome()", x.comesHome(), NOT);
            due("no ship: leg(0, 0)", x.leg(0, 0), UNKNOWN);
            due("no ship: lender(0, 0)", x.lender(0, 0), UNKNOWN);
        }
    }

    private static void newObject() {
        sentence("`BottomryLoans()`: No SHIP.");
        BottomryLoans x = new BottomryLoans();
        for (int what = 0; what <= 14; what++) {
            due("told(" + what + ")", x.told(what), what == 9 ? 1 : 0);
        }
        due("told(-1)", x.told(-1), OUTSIDE);
        due("fault()", x.fault(), NONE);
        due("leg(0, 0)", x.leg(0, 0), UNKNOWN);
        due("lender(0, 0)", x.lender(0, 0), UNKNOWN);
        due("loan(0, 0)", x.loan(0, 0), UNKNOWN);
        due("borrow(0, 1, false)", x.borrow(0, 1, false), UNKNOWN);
        due("repair(1)", x.repair(1), NOT);
        due("sail(true)", x.sail(true), NOT);
        due("sail(false)", x.sail(false), NOT);
        due("drift(1)", x.drift(1), NOT);
        due("undo()", x.undo(), NOT);
        due("comesHome()", x.comesHome(), NOT);
        due("rate()", x.rate(), NOT);
        due("willing()", x.willing(), NOT);
        due("paid(0)", x.paid(0), UNKNOWN);
        due("hurt(0, 1, false)", x.hurt(0, 1, false), UNKNOWN);
        due("share(0, 0)", x.share(0, 0), UNKNOWN);
        due("plan(-1)", x.plan(-1), NOT);
        due("plan(0)", x.plan(0), NOT);
        due("belief(7, 0)", x.belief(7, 0), 1000000);
        due("need(0, 0)", x.need(0, 0), NOT);
        due("tell(0, 0)", x.tell(0, 0), UNKNOWN);
        due("worth(0)", x.worth(0), NOT);
        due("tear()", x.tear(), 0);
        due("judge()", x.judge(), NONE);
        due("goBack(0)", x.goBack(0), NOT);
        due("goBack(1)", x.goBack(1), NOT);
        due("seed(1)", x.seed(1), 0);
        BottomryLoans y = Check.on("s200 60 5 10;l10 1 8;m150 30;");
        y.borrow(0, 10, false);
        y.seed(3);
        due("another object is not it: told(0)", new BottomryLoans().told(0), 0);
        due("another object is not it: told(6)", x.told(6), 0);
        due("another object is not it: seed(1)", x.seed(1), 1);
    }

    private static void feed() {
        sentence("One letter (a number 0 .. 255) comes behind THE TEXT: how many it has. OUTSIDE, FULL (220).");
        BottomryLoans x = new BottomryLoans();
        for (int letter : new int[] {-1, 256, -256, 's' + 256, LEAST, MOST}) {
            due("feed(" + letter + ")", x.feed(letter), OUTSIDE);
        }
        due("told(7), nothing yet", x.told(7), 0);
        due("feed(0)", x.feed(0), 1);
        due("feed(255)", x.feed(255), 2);
        for (int i = 3; i <= 220; i++) {
            due("feed(32)", x.feed(32), i);
        }
        due("feed(32), full", x.feed(32), FULL);
        due("feed(256), full", x.feed(256), OUTSIDE);
        due("told(7), full", x.told(7), 220);
        // behind, not ahead: the fault is at the first
        due("voyage()", x.voyage(), -11);
        due("fault()", x.fault(), 0);
        due("feed(32), room again", x.feed(32), 1);
    }

    private static BottomryLoans busy() {
        BottomryLoans x = Check.on("s200 60 5 10;l0 0 8;l0 0 12;l0 0 5;m150 30;m90 50;");
        x.borrow(0, 100, false);
        x.sail(true);
        x.seed(77);
        x.keep(0);
        x.keep(1);
        x.borrow(1, 20, true);
        x.tell(0, 5);
        x.write(7);
        return x;
    }

    private static void voyage() {
        sentence("THE TEXT (it is empty then, with a FAULT, too) becomes THE VOYAGE (ahead of LEG 0, no LOANS; nothing TOLD PAID, no BOOK; IMAGES, what could be undone are gone; THE SEED stays): how many LEGS;");
        BottomryLoans x = busy();
        Check.feed(x, "s7 8 9 6;l1 2 3;m4 5;");
        due("voyage()", x.voyage(), 1);
        due("the text is empty: told(7)", x.told(7), 0);
        due("ahead of LEG 0: told(8)", x.told(8), 0);
        due("no LOANS: told(6)", x.told(6), 0);
        due("no LOANS: told(10)", x.told(10), 0);
        due("nothing TOLD PAID: told(12)", x.told(12), 0);
        due("no BOOK: told(13)", x.told(13), 0);
        due("what could be undone is gone: told(14)", x.told(14), 0);
        due("what could be undone is gone: undo()", x.undo(), NOT);
        due("IMAGES are gone: goBack(0)", x.goBack(0), NOT);
        due("IMAGES are gone: goBack(1)", x.goBack(1), NOT);
        due("THE SEED stays", x.seed(77), 77);
        due("the lender has all again: lender(0, 2)", x.lender(0, 2), 4);
        due("a second lender is none any more", x.lender(1, 0), UNKNOWN);
        due("a second leg is none any more", x.leg(1, 0), UNKNOWN);
        due("told(0)", x.told(0), 7);
        due("told(3)", x.told(3), 6);
        x.sail(false);
        Check.feed(x, "s7 8 9 6;l1 2 3;m4 5;");
        x.voyage();
        due("she was LOST: told(9)", x.told(9), 0);
        BottomryLoans faulty = new BottomryLoans();
        Check.feed(faulty, "s7 8 9 6;;");
        due("with a FAULT", faulty.voyage(), -11);
        due("with a FAULT: told(7)", faulty.told(7), 0);
        Check.feed(faulty, "s7 8 9 6;");
        due("the faulty text is gone", faulty.voyage(), 0);
        due("voyage() of nothing", faulty.voyage(), 0);
        due("no ship any more", faulty.told(0), 0);
    }

    private static void voyageWithFault() {
        sentence("-10 less the number of its FAULT (all else is as it was).");
        String[] texts = {"s7 8 9 6;l1 2 3;x", "s7 8 9 6;l1 2 3;m4 201;", "s7 8 9 6;l1 2 3;s", "s0"};
        int[] faults = {-11, -12, -13, -12};
        for (int i = 0; i < texts.length; i++) {
            BottomryLoans x = busy();
            Check.feed(x, texts[i]);
            due(texts[i], x.voyage(), faults[i]);
            int[] want = {200, 60, 4, 130, 3, 2, 2, 0, 1, 0, 160, 230, 1, 1, 1};
            for (int what = 0; what < want.length; what++) {
                due("told(" + what + ")", x.told(what), want[what]);
            }
            due("leg(0, 0)", x.leg(0, 0), 0);
            due("leg(2, 2)", x.leg(2, 2), 5);
            due("lender(0, 2)", x.lender(0, 2), 50);
            due("lender(1, 1)", x.lender(1, 1), 50);
            due("loan(1, 1)", x.loan(1, 1), 20);
            due("worth(0)", x.worth(0), 0);
            due("judge()", x.judge(), 0);
            due("undo()", x.undo(), 0);
            due("goBack(1)", x.goBack(1), 1);
            due("goBack(0)", x.goBack(0), 1);
            due("seed(0)", x.seed(0), 77);
        }
    }

    private static void fault() {
        sentence("The place (from 0 on) of the letter that has the FAULT of the latest voyage(); NONE.");
        BottomryLoans x = new BottomryLoans();
        due("ahead of any voyage()", x.fault(), NONE);
        x.feed('x');
        due("fed, but not read", x.fault(), NONE);
        x.voyage();
        due("x", x.fault(), 0);
        Check.feed(x, "s1 0 0 0");
        due("of the latest voyage()", x.fault(), 0);
        x.voyage();
        due("at the end", x.fault(), 8);
        x.seed(3);
        x.keep(0);
        x.goBack(0);
        due("it stays", x.fault(), 8);
        Check.feed(x, SHIP);
        x.voyage();
        due("no fault any more", x.fault(), NONE);
    }

    private static void told() {
        sentence("0 W, 1 F, 2 STATE, 3 PURSE, 4 LEGS, 5 LENDERS, 6 LOANS,");
        BottomryLoans y = Check.on("s11 22 3 44;l0 0 4;l0 0 1;l0 0 1;m9 0;m9 0;m9 0;m9 0;m9 0;");
        int[] first = {11, 22, 3, 44, 3, 5, 0};
        for (int what = 0; what < first.length; what++) {
            due("at first: told(" + what + ")", y.told(what), first[what]);
        }
        y.repair(2);
        y.borrow(4, 9, false);
        y.sail(true);
        int[] then = {11, 22, 4, 45, 3, 5, 1};
        for (int what = 0; what < then.length; what++) {
            due("then: told(" + what + ")", y.told(what), then[what]);
        }
        sentence("7 letters of THE TEXT, 8 LEGS SAILED, 9 0 in a port, 1 HOME (no SHIP, too), 2 LOST, 10 OWED, 11 LEFT, were she HOME (LOST, no SHIP: 0),");
        BottomryLoans x = Check.on("s200 60 5 10;l10 1 8;l5 2 12;m150 30;");
        x.feed('s');
        x.borrow(0, 100, false);
        int[][] want = {{0, 0, 130, 240}, {1, 0, 130, 240}, {2, 1, 130, 240}};
        for (int sailed = 0; sailed < 3; sailed++) {
            due("told(7)", x.told(7), 1);
            due("told(8)", x.told(8), want[sailed][0]);
            due("told(9)", x.told(9), want[sailed][1]);
            due("told(10)", x.told(10), want[sailed][2]);
            due("told(11)", x.told(11), want[sailed][3]);
            x.sail(true);
        }
        x.undo();
        x.sail(false);
        due("LOST: told(8)", x.told(8), 1);
        due("LOST: told(9)", x.told(9), 2);
        due("LOST: told(11)", x.told(11), 0);
        due("no SHIP: told(9)", new BottomryLoans().told(9), 1);
        due("no SHIP: told(11)", new BottomryLoans().told(11), 0);
        sentence("12 how many were TOLD PAID, 13 entries of THE BOOK, 14 how many can be undone. OUTSIDE.");
        due("told(12)", x.told(12), 0);
        due("told(13)", x.told(13), 0);
        due("told(14)", x.told(14), 3);
        x.tell(0, 1);
        x.tell(0, 1);
        x.write(1);
        due("told(12)", x.told(12), 2);
        due("told(13)", x.told(13), 1);
        for (int what : new int[] {LEAST, -2, -1, 15, 16, 32, MOST}) {
            due("told(" + what + ")", x.told(what), OUTSIDE);
        }
    }

    private static void leg() {
        sentence("Of a LEG: what = 0 Q, 1 D, 2 C, 3 its odds by STATE now. UNKNOWN, OUTSIDE.");
        BottomryLoans x = Check.on("s200 60 5 99;l10 1 8;l90 3 12;m9 9;");
        due("leg(1, 0)", x.leg(1, 0), 90);
        due("leg(1, 1)", x.leg(1, 1), 3);
        due("leg(1, 2)", x.leg(1, 2), 12);
        due("leg(1, 3), 90 and 12", x.leg(1, 3), 100);
        due("leg(0, 3)", x.leg(0, 3), 14);
        x.repair(1);
        due("leg(1, 3) by state 6", x.leg(1, 3), 99);
        for (int l : new int[] {LEAST, -1, 2, 7, MOST}) {
            due("leg(" + l + ", 0)", x.leg(l, 0), UNKNOWN);
        }
        for (int what : new int[] {LEAST, -1, 4, MOST}) {
            due("leg(0, " + what + ")", x.leg(0, what), OUTSIDE);
            due("leg(2, " + what + ")", x.leg(2, what), UNKNOWN);
        }
        x.sail(true);
        x.sail(true);
        due("HOME: leg(0, 3) by state 4", x.leg(0, 3), 15);
        due("HOME: leg(1, 3) by state 4", x.leg(1, 3), 100);
        x.undo();
        x.sail(false);
        due("LOST: leg(0, 3) by state 5", x.leg(0, 3), 14);
    }

    private static void lender() {
        sentence("Of a LENDER: what = 0 A, 1 R, 2 what he has yet. UNKNOWN, OUTSIDE.");
        BottomryLoans x = Check.on("s200 60 5 99;l10 1 8;m150 30;m150 200;");
        x.borrow(1, 149, false);
        due("lender(1, 0)", x.lender(1, 0), 150);
        due("lender(1, 1)", x.lender(1, 1), 200);
        due("lender(1, 2)", x.lender(1, 2), 1);
        due("lender(0, 2)", x.lender(0, 2), 150);
        x.borrow(1, 1, true);
        due("lender(1, 2), all lent", x.lender(1, 2), 0);
        for (int m : new int[] {LEAST, -1, 2, 5, MOST}) {
            due("lender(" + m + ", 0)", x.lender(m, 0), UNKNOWN);
        }
        for (int what : new int[] {LEAST, -1, 3, MOST}) {
            due("lender(1, " + what + ")", x.lender(1, what), OUTSIDE);
            due("lender(2, " + what + ")", x.lender(2, what), UNKNOWN);
        }
        x.sail(true);
        due("HOME: lender(1, 2)", x.lender(1, 2), 0);
        x.undo();
        x.sail(false);
        due("LOST: lender(1, 2)", x.lender(1, 2), 0);
        x.undo();
        x.undo();
        due("undone: lender(1, 2)", x.lender(1, 2), 1);
    }

    private static void loan() {
        sentence("Of a LOAN: what = 0 LENDER, 1 AMOUNT, 2 0 on the SHIP, 1 on FREIGHT, 3 DUE, 4 LEGS SAILED when it was taken, 5 RANK. UNKNOWN, OUTSIDE.");
        BottomryLoans x = Check.on("s200 60 5 99;l0 0 8;l0 0 1;m999 200;m150 33;");
        x.borrow(1, 1, true);
        x.sail(true);
        x.borrow(0, 999, false);
        int[][] want = {{1, 1, 1, 1, 0, 0}, {0, 999, 0, 2997, 1, 1}};
        for (int i = 0; i < want.length; i++) {
            for (int what = 0; what < 6; what++) {
                due("loan(" + i + ", " + what + ")", x.loan(i, what), want[i][what]);
            }
        }
        for (int i : new int[] {LEAST, -1, 2, 8, MOST}) {
            due("loan(" + i + ", 0)", x.loan(i, 0), UNKNOWN);
        }
        for (int what : new int[] {LEAST, -1, 6, MOST}) {
            due("loan(0, " + what + ")", x.loan(0, what), OUTSIDE);
            due("loan(2, " + what + ")", x.loan(2, what), UNKNOWN);
        }
        x.sail(true);
        due("it stays when it was taken: loan(1, 4)", x.loan(1, 4), 1);
        x.undo();
        x.undo();
        due("undone: loan(1, 0)", x.loan(1, 0), UNKNOWN);
        due("undone: loan(0, 0)", x.loan(0, 0), 1);
    }
}
