/** Promises 1 to 8: a new object, feed, voyage, fault, told, leg, lender, loan. */
public final class VoyageTest {
    private static final Check CHECK = new Check("VoyageTest");
    private static final int UNKNOWN = BottomryLoans.UNKNOWN;
    private static final int OUTSIDE = BottomryLoans.OUTSIDE;
    private static final int FULL = BottomryLoans.FULL;

    public static void main(String[] args) {
        newObject();
        feed();
        goodTexts();
        cannotStand();
        badNumbers();
        tooMany();
        voyageClears();
        voyageWithFault();
        told();
        leg();
        lender();
        loan();
        CHECK.finish();
    }

    private static void due(String call, long got, long want) {
        CHECK.due(call, got, want);
    }

    private static void newObject() {
        BottomryLoans x = new BottomryLoans();
        for (int what = 0; what <= 14; what++) {
            due("new: told(" + what + ")", x.told(what), what == 9 ? 1 : 0);
        }
        due("new: fault()", x.fault(), -1);
        due("new: seed(5)", x.seed(5), 0);
        due("new: judge()", x.judge(), -1);
        due("new: leg(0, 0)", x.leg(0, 0), UNKNOWN);
        due("new: goBack(0)", x.goBack(0), BottomryLoans.NOT);
        due("new: comesHome()", x.comesHome(), BottomryLoans.NOT);
    }

    private static void feed() {
        BottomryLoans x = new BottomryLoans();
        due("feed(-1)", x.feed(-1), OUTSIDE);
        due("feed(256)", x.feed(256), OUTSIDE);
        due("feed(MIN)", x.feed(Integer.MIN_VALUE), OUTSIDE);
        due("feed(0)", x.feed(0), 1);
        due("feed(255)", x.feed(255), 2);
        for (int i = 3; i <= 220; i++) {
            due("feed(32)", x.feed(32), i);
        }
        due("feed, full", x.feed(32), FULL);
        due("feed(256), full", x.feed(256), OUTSIDE);
        due("told(7), full", x.told(7), 220);
        due("voyage()", x.voyage(), -11);
        due("feed again", x.feed(32), 1);
    }

    private static void read(String text, int want, int place) {
        BottomryLoans x = new BottomryLoans();
        Check.feed(x, text);
        due("'" + text + "' voyage()", x.voyage(), want);
        due("'" + text + "' fault()", x.fault(), place);
        due("'" + text + "' told(7)", x.told(7), 0);
    }

    private static void goodTexts() {
        read("", 0, -1);
        read("   ", 0, -1);
        read("s1 0 0 0;", 0, -1);
        read("s999 999 9 999;", 0, -1);
        read("  s 001 0 009 000 ;  l 99 9 99 ; m 999 200;  ", 1, -1);
        read("s1 0 0 0;m0 0;l0 0 1;m1 1;l0 0 1;", 2, -1);
        read("s1 0 0 0;" + "l0 0 1;".repeat(7) + "m0 0;".repeat(5), 7, -1);
        String longest = "s1 0 0 0;l0 0 1;";
        read(longest + " ".repeat(220 - longest.length()), 1, -1);
    }

    private static void cannotStand() {
        read("x", -11, 0);
        read(" x", -11, 1);
        read("S1 0 0 0;", -11, 0);
        read("1", -11, 0);
        read("9999", -11, 0);
        read(";", -11, 0);
        read("l0 0 1;s1 0 0 0;", -11, 0);
        read("m0 0;", -11, 0);
        read("s", -11, 1);
        read("s  ", -11, 3);
        read("s1", -11, 2);
        read("s1 0 0 0", -11, 8);
        read("s1 0 0 0  ", -11, 10);
        read("s1 0 0;", -11, 6);
        read("s1 0 0 0 0;", -11, 9);
        read("s1 0 0 0 9999;", -11, 9);
        read("s;", -11, 1);
        read("s1 s", -11, 3);
        read("s1 0 0 0 s", -11, 9);
        read("s1-0 0 0;", -11, 2);
        read("s-1 0 0 0;", -11, 1);
        read("s1\t0 0 0;", -11, 2);
        read("s1 0 0 0;;", -11, 9);
        read("s1 0 0 0;5;", -11, 9);
        read("s1 0 0 0;l0 0;", -11, 13);
        read("s1 0 0 0;l0 0 1 1;", -11, 16);
        read("s1 0 0 0;m0;", -11, 11);
        read("s1 0 0 0;m0 0 0;", -11, 14);
        read("s1 0 0 0;" + "l0 0 1;".repeat(7) + "m0 l", -11, 9 + 49 + 3);
        read("s1 0 0 0;\0", -11, 9);
        read("s\0001 0 0 0;", -11, 1);
        String unended = "s1 0 0 0;l0 0 1";
        read(unended + " ".repeat(220 - unended.length()), -11, 220);
    }

    private static void badNumbers() {
        read("s0 0 0 0;", -12, 1);
        read("s000 0 0 0;", -12, 1);
        read("s1000 0 0 0;", -12, 1);
        read("s0001 0 0 0;", -12, 1);
        read("s 0001", -12, 2);
        read("s1000x", -12, 1);
        read("s1 1000 0 0;", -12, 3);
        read("s1 0000 0 0;", -12, 3);
        read("s1 0 10 0;", -12, 5);
        read("s1 0 0 1000;", -12, 7);
        read("s1 0 0 4294967296;", -12, 7);
        read("s1 0 0 4294967297;", -12, 7);
        read("s1 0 0 " + "1".repeat(213), -12, 7);
        read("s1 0 0 0;l100 0 1;", -12, 10);
        read("s1 0 0 0;l0 10 1;", -12, 12);
        read("s1 0 0 0;l0 0 0;", -12, 14);
        read("s1 0 0 0;l0 0 100;", -12, 14);
        read("s1 0 0 0;m0 201;", -12, 12);
        read("s1 0 0 0;m1000 0;", -12, 10);
    }

    private static void tooMany() {
        read("s1 0 0 0;s1 0 0 0;", -13, 9);
        read("s1 0 0 0; s", -13, 10);
        read("s1 0 0 0;" + "l0 0 1;".repeat(8), -13, 9 + 49);
        read("s1 0 0 0;" + "l0 0 1;".repeat(7) + "lx", -13, 9 + 49);
        read("s1 0 0 0;" + "m0 0;".repeat(6), -13, 9 + 25);
        read("s1 0 0 0;" + "m0 0;".repeat(5) + "l0 0 1;" + "m", -13, 9 + 25 + 7);
    }

    private static BottomryLoans busy() {
        BottomryLoans x = Check.on("s200 60 5 10;l0 0 8;l0 0 12;l0 0 5;m150 30;m90 50;");
        x.borrow(0, 100, false);
        x.sail(true);
        x.seed(77);
        x.keep(0);
        x.keep(1);
        x.borrow(1, 20, true);
        x.tell(0, 5);
        x.write(7);
        return x;
    }

    private static void voyageClears() {
        BottomryLoans x = busy();
        Check.feed(x, "s7 8 9 6;l1 2 3;m4 5;");
        due("voyage() again", x.voyage(), 1);
        int[] want = {7, 8, 9, 6, 1, 1, 0, 0, 0, 0, 0, 21, 0, 0, 0};
        for (int what = 0; what < want.length; what++) {
            due("voyage again: told(" + what + ")", x.told(what), want[what]);
        }
        due("goBack(0) behind voyage()", x.goBack(0), BottomryLoans.NOT);
        due("goBack(1) behind voyage()", x.goBack(1), BottomryLoans.NOT);
        due("the seed stays", x.seed(1), 77);
        due("undo() behind voyage()", x.undo(), BottomryLoans.NOT);
        due("lender(1, 0) behind voyage()", x.lender(1, 0), UNKNOWN);
        due("lender(0, 2) behind voyage()", x.lender(0, 2), 4);
        x.sail(false);
        due("an empty text", x.voyage(), 0);
        due("no ship: told(0)", x.told(0), 0);
        due("no ship: told(3)", x.told(3), 0);
        due("no ship: told(9)", x.told(9), 1);
        due("no ship: paid(0)", x.paid(0), UNKNOWN);
        due("no ship: worth(0)", x.worth(0), BottomryLoans.NOT);
    }

    private static void voyageWithFault() {
        BottomryLoans x = busy();
        Check.feed(x, "s7 8 9 6;l1 2 3;m4 1000;");
        due("voyage() with a fault", x.voyage(), -12);
        due("fault()", x.fault(), 19);
        int[] want = {200, 60, 4, 130, 3, 2, 2, 0, 1, 0, 160, 230, 1, 1, 1};
        for (int what = 0; what < want.length; what++) {
            due("behind a fault: told(" + what + ")", x.told(what), want[what]);
        }
        due("leg(0, 2) behind a fault", x.leg(0, 2), 8);
        due("goBack(0) behind a fault", x.goBack(0), 1);
        due("fault() stays", x.fault(), 19);
        due("voyage(), empty", x.voyage(), 0);
        due("fault(), none", x.fault(), -1);
    }

    private static void told() {
        BottomryLoans x = Check.on("s200 60 5 10;l10 1 8;l5 2 12;m150 30;m90 50;m40 10;");
        x.feed('s');
        x.write(3);
        x.borrow(0, 100, false);
        x.borrow(1, 40, true);
        x.tell(0, 1);
        x.tell(1, 1);
        x.repair(2);
        x.sail(true);
        // purse 10 + 140 - 16; owed 130 + 60; of the freight nothing is left
        int[] want = {200, 60, 6, 134, 2, 3, 2, 1, 1, 0, 190, 204, 2, 1, 4};
        for (int what = 0; what < want.length; what++) {
            due("told(" + what + ")", x.told(what), want[what]);
        }
        due("told(-1)", x.told(-1), OUTSIDE);
        due("told(15)", x.told(15), OUTSIDE);
        x.sail(false);
        due("lost: told(8)", x.told(8), 1);
        due("lost: told(9)", x.told(9), 2);
        due("lost: told(10)", x.told(10), 190);
        due("lost: told(11)", x.told(11), 0);
        x.undo();
        x.sail(true);
        due("home: told(9)", x.told(9), 1);
        due("home: told(11)", x.told(11), 204);
        due("no legs: told(9)", Check.on("s1 0 0 0;").told(9), 1);
        due("no legs: told(11)", Check.on("s1 2 0 4;").told(11), 7);
        leftIsNeverBelowNought();
    }

    private static void leftIsNeverBelowNought() {
        BottomryLoans x = Check.on("s1 50 5 0;l0 0 1;m999 200;m999 0;");
        x.borrow(0, 40, true);
        due("freight does not eat of the ship: told(11)", x.told(11), 41);
        x.borrow(0, 400, false);
        due("told(11), all eaten", x.told(11), 0);
        due("told(10), more than there is", x.told(10), 1320);
    }

    private static void leg() {
        BottomryLoans x = Check.on("s200 60 5 99;l10 1 8;l99 9 12;");
        due("leg(0, 0)", x.leg(0, 0), 10);
        due("leg(0, 1)", x.leg(0, 1), 1);
        due("leg(0, 2)", x.leg(0, 2), 8);
        due("leg(0, 3)", x.leg(0, 3), 14);
        due("leg(1, 3)", x.leg(1, 3), 100);
        due("leg(2, 0)", x.leg(2, 0), UNKNOWN);
        due("leg(-1, 0)", x.leg(-1, 0), UNKNOWN);
        due("leg(MAX, 9)", x.leg(Integer.MAX_VALUE, 9), UNKNOWN);
        due("leg(0, -1)", x.leg(0, -1), OUTSIDE);
        due("leg(0, 4)", x.leg(0, 4), OUTSIDE);
        x.repair(4);
        due("leg(0, 3) by state 9", x.leg(0, 3), 10);
        due("leg(1, 3) by state 9", x.leg(1, 3), 99);
        x.sail(true);
        due("leg(0, 3) by state 8, sailed", x.leg(0, 3), 11);
        x.sail(false);
        due("leg(1, 3), lost", x.leg(1, 3), 100);
    }

    private static void lender() {
        BottomryLoans x = Check.on("s200 60 5 99;l10 1 8;m150 30;m0 200;");
        due("lender(0, 0)", x.lender(0, 0), 150);
        due("lender(0, 1)", x.lender(0, 1), 30);
        due("lender(1, 1)", x.lender(1, 1), 200);
        due("lender(1, 2)", x.lender(1, 2), 0);
        x.borrow(0, 50, false);
        x.borrow(0, 30, true);
        due("lender(0, 0), lent", x.lender(0, 0), 150);
        due("lender(0, 2), lent", x.lender(0, 2), 70);
        x.undo();
        due("lender(0, 2), undone", x.lender(0, 2), 100);
        due("lender(1, 2), another lent", x.lender(1, 2), 0);
        due("lender(2, 0)", x.lender(2, 0), UNKNOWN);
        due("lender(-1, 7)", x.lender(-1, 7), UNKNOWN);
        due("lender(0, 3)", x.lender(0, 3), OUTSIDE);
        due("lender(0, -1)", x.lender(0, -1), OUTSIDE);
    }

    private static void loan() {
        BottomryLoans x = Check.on("s200 60 5 99;l0 0 8;l0 0 1;m150 33;m90 50;");
        x.borrow(0, 10, false);
        x.borrow(1, 11, true);
        x.sail(true);
        x.borrow(1, 12, false);
        x.borrow(0, 13, true);
        int[][] want = {{0, 10, 0, 13, 0, 3}, {1, 11, 1, 16, 0, 1}, {1, 12, 0, 18, 1, 2}, {0, 13, 1, 17, 1, 0}};
        for (int i = 0; i < want.length; i++) {
            for (int what = 0; what <= 5; what++) {
                due("loan(" + i + ", " + what + ")", x.loan(i, what), want[i][what]);
            }
        }
        due("loan(4, 0)", x.loan(4, 0), UNKNOWN);
        due("loan(-1, 9)", x.loan(-1, 9), UNKNOWN);
        due("loan(0, -1)", x.loan(0, -1), OUTSIDE);
        due("loan(0, 6)", x.loan(0, 6), OUTSIDE);
        x.sail(false);
        due("loan(0, 5), lost", x.loan(0, 5), 3);
        x.undo();
        x.undo();
        due("loan(0, 5), one less", x.loan(0, 5), 2);
        due("loan(3, 0), undone", x.loan(3, 0), UNKNOWN);
        ranks();
    }

    private static void ranks() {
        BottomryLoans x = Check.on("s200 60 5 99;l0 0 8;m150 33;");
        boolean[] onFreight = {true, true, false, false, true};
        for (boolean kind : onFreight) {
            x.borrow(0, 10, kind);
        }
        int[] want = {2, 1, 4, 3, 0};
        for (int i = 0; i < want.length; i++) {
            due("the rank of loan " + i, x.loan(i, 5), want[i]);
        }
    }
}
