/** The boundary cases of the document's section 2 and of promises 9 to 13 and 28 to 30, sentence by sentence. */
public final class SheEdgesTest {
    private static final Check CHECK = new Check("SheEdgesTest");
    private static final int UNKNOWN = BottomryLoans.UNKNOWN;
    private static final int OUTSIDE = BottomryLoans.OUTSIDE;
    private static final int NOT = BottomryLoans.NOT;
    private static final int FULL = BottomryLoans.FULL;
    private static final int MOST = Integer.MAX_VALUE;
    private static final int LEAST = Integer.MIN_VALUE;

    public static void main(String[] args) {
        where();
        loanOf();
        loanPlace();
        due();
        repairOf();
        sailed();
        home();
        homeOnShip();
        left();
        lost();
        saved();
        borrow();
        repair();
        sail();
        drift();
        draws();
        undone();
        twenty();
        undo();
        seed();
        keep();
        goBack();
        CHECK.finish();
    }

    private static void due(String call, long got, long want) {
        CHECK.due(call, got, want);
    }

    private static void sentence(String words) {
        CHECK.sentence(words);
    }

    private static void where() {
        sentence("SHE is in the port ahead of LEG 0 at first; in a port, or HOME (behind the last LEG; without LEGS at once), or LOST.");
        BottomryLoans x = Check.on("s200 60 5 99;l0 0 8;l0 0 1;m9 0;");
        due("at first: told(8)", x.told(8), 0);
        due("at first: told(9)", x.told(9), 0);
        x.sail(true);
        due("ahead of the last LEG: told(9)", x.told(9), 0);
        x.sail(true);
        due("behind the last LEG: told(8)", x.told(8), 2);
        due("behind the last LEG: told(9)", x.told(9), 1);
        BottomryLoans home = Check.on("s200 60 5 99;m9 0;");
        due("without LEGS: told(9)", home.told(9), 1);
        due("without LEGS: borrow", home.borrow(0, 1, false), NOT);
        due("without LEGS: repair", home.repair(1), NOT);
        due("without LEGS: sail", home.sail(true), NOT);
        due("without LEGS: drift", home.drift(1), NOT);
        due("without LEGS: comesHome()", home.comesHome(), 1000000);
        BottomryLoans lost = Check.on("s200 60 5 99;l0 0 8;");
        lost.sail(false);
        due("the last LEG is not behind her: told(9)", lost.told(9), 2);
    }

    private static void loanOf() {
        sentence("A LOAN (8 at most): of a LENDER (who has so much yet), so much, at his rate, on the SHIP or on its FREIGHT, taken in a port; PURSE is so much more.");
        BottomryLoans x = Check.on("s200 60 5 0;l0 0 8;m10 50;m7 100;m99 0;");
        due("more than he has", x.borrow(0, 11, false), NOT);
        due("so much", x.borrow(0, 10, true), 0);
        due("told(3)", x.told(3), 10);
        due("nothing yet", x.borrow(0, 1, false), NOT);
        due("another has", x.borrow(1, 6, false), 1);
        due("told(3)", x.told(3), 16);
        due("2 of 1", x.borrow(1, 2, false), NOT);
        due("1 of 1", x.borrow(1, 1, false), 2);
        due("at his rate: loan(0, 3)", x.loan(0, 3), 15);
        due("at his rate: loan(1, 3)", x.loan(1, 3), 12);
        due("on FREIGHT: loan(0, 2)", x.loan(0, 2), 1);
        due("on the SHIP: loan(1, 2)", x.loan(1, 2), 0);
        for (int i = 3; i < 8; i++) {
            due("the loan " + i, x.borrow(2, 1, false), i);
        }
        due("a ninth", x.borrow(2, 1, false), FULL);
        due("a ninth: told(6)", x.told(6), 8);
        due("a ninth: told(3)", x.told(3), 22);
        due("a ninth: lender(2, 2)", x.lender(2, 2), 94);
    }

    private static void loanPlace() {
        sentence("taken in a port;");
        BottomryLoans x = Check.on("s200 60 5 0;l0 0 8;l0 0 8;m10 50;");
        x.sail(true);
        due("in the second port", x.borrow(0, 1, false), 0);
        x.sail(true);
        due("HOME", x.borrow(0, 1, false), NOT);
        x.undo();
        x.sail(false);
        due("LOST", x.borrow(0, 1, false), NOT);
        due("LOST: told(6)", x.told(6), 1);
        due("LOST: told(3)", x.told(3), 1);
    }

    private static void due() {
        sentence("DUE is AMOUNT and AMOUNT times R / 100.");
        BottomryLoans x = Check.on("s200 60 5 0;l0 0 8;m999 0;m999 200;m999 1;m999 33;");
        int[][] want = {{0, 1, 1}, {0, 998, 998}, {1, 1, 3}, {1, 998, 2994}, {2, 99, 99}, {2, 100, 101}, {2, 199, 200},
            {3, 10, 13}};
        int owed = 0;
        for (int i = 0; i < want.length; i++) {
            x.borrow(want[i][0], want[i][1], i % 2 == 0);
            due("loan(" + i + ", 3)", x.loan(i, 3), want[i][2]);
            owed += want[i][2];
            due("told(10)", x.told(10), owed);
        }
        BottomryLoans most = Check.on("s200 60 5 0;l0 0 8;m999 200;");
        most.borrow(0, 999, true);
        due("999 at 200: loan(0, 3)", most.loan(0, 3), 2997);
    }

    private static void repairOf() {
        sentence("REPAIR: k points of STATE (9 at most) for k times C.");
        BottomryLoans x = Check.on("s200 60 0 100;l0 0 11;l0 0 99;");
        due("repair(9)", x.repair(9), 9);
        due("told(3)", x.told(3), 1);
        due("above 9", x.repair(1), NOT);
        x.sail(true);
        due("the purse is less than 99", x.repair(1), NOT);
        BottomryLoans y = Check.on("s200 60 6 99;l0 0 33;");
        due("10 points", y.repair(4), NOT);
        due("9 points for all of the purse", y.repair(3), 9);
        due("told(3)", y.told(3), 0);
        BottomryLoans z = Check.on("s200 60 6 98;l0 0 33;");
        due("99 of 98", z.repair(3), NOT);
        due("66 of 98", z.repair(2), 8);
        due("told(3)", z.told(3), 32);
        due("33 of 32", z.repair(1), NOT);
    }

    private static void sailed() {
        sentence("A LEG that is SAILED: she is in the next port, STATE is 1 less (0 at least); or LOST.");
        BottomryLoans x = Check.on("s200 60 2 100;l99 9 11;l99 9 9;l99 9 8;l99 9 7;");
        int[] state = {1, 0, 0, 0};
        for (int l = 0; l < 4; l++) {
            due("sail(true)", x.sail(true), l + 1);
            due("told(2)", x.told(2), state[l]);
            due("told(3)", x.told(3), 100);
        }
        x.undo();
        due("sail(false)", x.sail(false), 3);
        due("LOST: told(9)", x.told(9), 2);
        due("LOST: told(2)", x.told(2), 0);
        BottomryLoans y = Check.on("s200 60 2 100;l0 0 11;");
        due("sail(false)", y.sail(false), 0);
        due("LOST, not SAILED: told(2)", y.told(2), 2);
        due("LOST, not SAILED: told(8)", y.told(8), 0);
    }

    private static void home() {
        sentence("HOME: LOANS on FREIGHT are paid of F, the last one first, each DUE or what is left of F;");
        BottomryLoans x = Check.on("s1 60 5 0;l0 0 8;m999 0;");
        x.borrow(0, 1, true);
        x.borrow(0, 10, true);
        x.borrow(0, 1, false);
        x.borrow(0, 50, true);
        due("the last: paid(3)", x.paid(3), 50);
        due("just what is left: paid(1)", x.paid(1), 10);
        due("nothing is left, though the ship is worth more: paid(0)", x.paid(0), 0);
        due("told(11): 1 and 62, less 1", x.told(11), 62);
        BottomryLoans y = Check.on("s1 60 5 0;l0 0 8;m999 0;");
        y.borrow(0, 11, true);
        y.borrow(0, 50, true);
        due("the last: paid(1)", y.paid(1), 50);
        due("less than DUE: paid(0)", y.paid(0), 10);
        BottomryLoans z = Check.on("s999 0 5 999;l0 0 8;m999 0;");
        z.borrow(0, 1, true);
        due("no FREIGHT: paid(0)", z.paid(0), 0);
        due("no FREIGHT: told(11)", z.told(11), 1999);
        BottomryLoans one = Check.on("s999 60 5 999;l0 0 8;m999 0;");
        one.borrow(0, 61, true);
        due("61 of 60: paid(0)", one.paid(0), 60);
        one.undo();
        one.borrow(0, 60, true);
        due("60 of 60: paid(0)", one.paid(0), 60);
    }

    private static void homeOnShip() {
        sentence("then LOANS on the SHIP of W and PURSE together and what is left of F, the last one first, likewise.");
        BottomryLoans x = Check.on("s5 60 5 7;l0 0 99;m999 200;m999 0;");
        x.borrow(0, 30, false);
        x.borrow(1, 20, false);
        x.borrow(1, 50, true);
        x.repair(1);
        // the purse is 7 and 100 less 99, the freight leaves 10: 5 and 8 and 10
        due("told(3)", x.told(3), 8);
        due("on FREIGHT: paid(2)", x.paid(2), 50);
        due("the last on the SHIP: paid(1)", x.paid(1), 20);
        due("what is left: paid(0)", x.paid(0), 3);
        due("told(11)", x.told(11), 0);
        x.borrow(1, 3, false);
        due("it brings what it takes: paid(3)", x.paid(3), 3);
        due("it brings what it takes: paid(0)", x.paid(0), 3);
        BottomryLoans y = Check.on("s1 0 5 0;l0 0 20;m999 0;");
        y.borrow(0, 20, false);
        y.borrow(0, 1, false);
        y.repair(1);
        due("the last: paid(1)", y.paid(1), 1);
        due("1 is left of 1 and 1: paid(0)", y.paid(0), 1);
        y.sail(true);
        due("HOME as it would be: paid(0)", y.paid(0), 1);
    }

    private static void left() {
        sentence("LEFT is what is left then. (Nothing is taken away by it: it is as it would be.)");
        BottomryLoans x = Check.on("s10 20 5 30;l0 0 1;m999 200;");
        due("no LOANS: told(11)", x.told(11), 60);
        x.borrow(0, 20, false);
        due("80 less 60: told(11)", x.told(11), 20);
        x.borrow(0, 10, false);
        due("90 less 90: told(11)", x.told(11), 0);
        x.borrow(0, 1, false);
        due("91 less 93: told(11)", x.told(11), 0);
        x.sail(true);
        x.paid(0);
        due("HOME: told(0)", x.told(0), 10);
        due("HOME: told(1)", x.told(1), 20);
        due("HOME: told(3)", x.told(3), 61);
        due("HOME: told(6)", x.told(6), 3);
        due("HOME: told(10)", x.told(10), 93);
        due("HOME: told(11)", x.told(11), 0);
        BottomryLoans y = Check.on("s10 20 5 30;l0 0 1;m999 200;");
        y.borrow(0, 100, true);
        due("300 on FREIGHT of 20: told(11)", y.told(11), 140);
    }

    private static void lost() {
        sentence("LOST: no LOAN is paid, LEFT is 0.");
        BottomryLoans x = Check.on("s10 20 5 30;l0 0 1;m999 0;");
        x.borrow(0, 1, false);
        x.borrow(0, 1, true);
        x.sail(false);
        due("told(11)", x.told(11), 0);
        due("paid(0)", x.paid(0), NOT);
        due("paid(1)", x.paid(1), NOT);
        x.undo();
        due("told(11), undone", x.told(11), 60);
    }

    private static void saved() {
        sentence("SAVED: a wreck, LOST, of which v (0 .. 999) is saved: LOANS on the SHIP are paid of v, the last one first; the others are not.");
        BottomryLoans x = Check.on("s10 20 5 30;l0 0 1;m999 0;");
        x.borrow(0, 10, false);
        x.borrow(0, 3, true);
        x.borrow(0, 5, false);
        for (int turn = 0; turn < 2; turn++) {
            int[][] want = {{0, 0, 0}, {1, 0, 1}, {4, 0, 4}, {5, 0, 5}, {6, 1, 5}, {14, 9, 5}, {15, 10, 5}, {16, 10, 5},
                {999, 10, 5}};
            for (int[] one : want) {
                due("share(0, " + one[0] + ")", x.share(0, one[0]), one[1]);
                due("share(1, " + one[0] + ")", x.share(1, one[0]), 0);
                due("share(2, " + one[0] + ")", x.share(2, one[0]), one[2]);
            }
            x.sail(false);
        }
    }

    private static void borrow() {
        sentence("A LOAN: its number. UNKNOWN, OUTSIDE (v 1 .. 999), NOT: no port, he has not so much; FULL (8).");
        BottomryLoans x = Check.on("s10 20 5 30;l0 0 1;m999 0;m998 0;");
        for (int m : new int[] {LEAST, -1, 2, 5, MOST}) {
            due("borrow(" + m + ", 1, false)", x.borrow(m, 1, false), UNKNOWN);
        }
        for (int v : new int[] {LEAST, -1, 0, 1000, MOST}) {
            due("borrow(0, " + v + ", false)", x.borrow(0, v, false), OUTSIDE);
            due("borrow(0, " + v + ", true)", x.borrow(0, v, true), OUTSIDE);
        }
        due("999 of 998", x.borrow(1, 999, false), NOT);
        due("999 of 999", x.borrow(0, 999, false), 0);
        due("1 of 998", x.borrow(1, 1, true), 1);
        x.undo();
        due("the number of one that was undone", x.borrow(1, 2, true), 1);
        for (int i = 2; i < 8; i++) {
            x.borrow(1, 1, true);
        }
        due("he has not so much, and FULL", x.borrow(0, 1, false), NOT);
        due("FULL", x.borrow(1, 1, false), FULL);
        x.sail(true);
        due("no port, and FULL", x.borrow(1, 1, false), NOT);
    }

    private static void repair() {
        sentence("REPAIR: STATE. OUTSIDE (k 1 .. 9), NOT: no port, above 9, PURSE is less.");
        BottomryLoans x = Check.on("s10 20 0 9;l0 0 1;");
        for (int k : new int[] {LEAST, -1, 0, 10, MOST}) {
            due("repair(" + k + ")", x.repair(k), OUTSIDE);
        }
        due("repair(9)", x.repair(9), 9);
        x.undo();
        due("repair(1)", x.repair(1), 1);
        due("above 9: repair(9)", x.repair(9), NOT);
        due("told(2)", x.told(2), 1);
        due("told(3)", x.told(3), 8);
        due("repair(8)", x.repair(8), 9);
        due("told(3)", x.told(3), 0);
        BottomryLoans y = Check.on("s10 20 0 8;l0 0 1;");
        due("PURSE is less: repair(9)", y.repair(9), NOT);
        due("PURSE is enough: repair(8)", y.repair(8), 8);
        y.undo();
        y.sail(true);
        due("HOME: repair(1)", y.repair(1), NOT);
        due("HOME: repair(10)", y.repair(10), OUTSIDE);
        y.undo();
        y.sail(false);
        due("LOST: repair(1)", y.repair(1), NOT);
        due("LOST: repair(0)", y.repair(0), OUTSIDE);
    }

    private static void sail() {
        sentence("A LEG: SAILED (comes), or LOST: LEGS SAILED. NOT: no port.");
        BottomryLoans x = Check.on("s10 20 0 9;" + "l99 9 1;".repeat(7));
        for (int l = 1; l <= 7; l++) {
            due("sail(true)", x.sail(true), l);
        }
        due("HOME: sail(true)", x.sail(true), NOT);
        due("HOME: sail(false)", x.sail(false), NOT);
        due("HOME: told(9)", x.told(9), 1);
        x.undo();
        due("the last LEG: sail(false)", x.sail(false), 6);
        due("LOST: sail(true)", x.sail(true), NOT);
        due("LOST: sail(false)", x.sail(false), NOT);
        due("LOST: told(14)", x.told(14), 7);
    }

    private static void drift() {
        sentence("n LEGS (1 .. 7) BY DRAWS: as told(9). OUTSIDE, NOT: no port.");
        String seven = "s10 20 9 9;" + "l0 0 1;".repeat(7);
        BottomryLoans x = Check.on(seven);
        for (int n : new int[] {LEAST, -1, 0, 8, MOST}) {
            due("drift(" + n + ")", x.drift(n), OUTSIDE);
        }
        due("refused: told(8)", x.told(8), 0);
        due("drift(6)", x.drift(6), 0);
        due("told(8)", x.told(8), 6);
        due("told(2)", x.told(2), 3);
        due("drift(1)", x.drift(1), 1);
        due("HOME: drift(1)", x.drift(1), NOT);
        due("HOME: drift(0)", x.drift(0), OUTSIDE);
        BottomryLoans y = Check.on(seven);
        due("drift(7)", y.drift(7), 1);
        due("told(8)", y.told(8), 7);
        due("told(14)", y.told(14), 1);
        BottomryLoans z = Check.on("s10 20 9 9;l0 0 1;l0 0 1;");
        due("more than there are: drift(7)", z.drift(7), 1);
        due("more than there are: told(8)", z.told(8), 2);
        z.undo();
        z.sail(false);
        due("LOST: drift(1)", z.drift(1), NOT);
        due("LOST: drift(8)", z.drift(8), OUTSIDE);
        BottomryLoans sunk = Check.on("s10 20 0 9;l0 0 1;l19 9 1;l0 0 1;");
        due("odds of 100: drift(7)", sunk.drift(7), 2);
        due("odds of 100: told(8)", sunk.told(8), 1);
    }

    /** The seeds as the document reckons them, by this test's own reckoning in long numbers. */
    private static long next(long seed) {
        return (seed * 1103515245L + 12345L) % 2147483648L;
    }

    private static void draws() {
        sentence("BY DRAWS: THE SEED (0 at first: each DRAW it becomes it times 1103515245 and 12345, left over by 2 to the 31; the DRAW of n is it / 65536, left over by n): n LEGS: for each, while she is in a port, a DRAW of 100: below its odds she is LOST, else it is SAILED.");
        BottomryLoans first = Check.on("s10 20 9 9;l0 0 1;");
        due("0 at first", first.seed(0), 0);
        first.drift(1);
        due("behind one DRAW of 0", first.seed(0), 12345);
        for (int seed : new int[] {0, 1, 2, 12345, 65535, 65536, 1073741824, 2147483646, MOST}) {
            long one = next(seed);
            int draw = (int) (one / 65536 % 100);
            BottomryLoans at = Check.on("s10 20 9 9;l" + Math.min(99, draw) + " 0 1;l0 0 1;");
            at.seed(seed);
            due("as the odds are: drift(1)", at.drift(1), 0);
            due("one DRAW of " + seed, at.seed(0), one);
            if (draw < 99) {
                BottomryLoans below = Check.on("s10 20 9 9;l" + (draw + 1) + " 0 1;l0 0 1;");
                below.seed(seed);
                due("below its odds: drift(7)", below.drift(7), 2);
                due("no DRAW for what is LOST", below.seed(0), one);
                due("below its odds: told(8)", below.told(8), 0);
            }
            BottomryLoans three = Check.on("s10 20 9 9;l0 0 1;l0 0 1;l0 0 1;");
            three.seed(seed);
            three.drift(7);
            due("a DRAW for each LEG, and none at HOME", three.seed(0), next(next(one)));
            three.undo();
            due("THE SEED stays", three.seed(seed), 0);
            three.drift(2);
            due("two DRAWS for two LEGS", three.seed(0), next(one));
        }
        wornDraw();
    }

    /** The odds of each leg are those by STATE when she sails it. */
    private static void wornDraw() {
        long one = next(7);
        int second = (int) (next(one) / 65536 % 100);
        // state 9 ahead of the first leg, 8 ahead of the second: D is added once
        int q = Math.max(0, second - 4);
        BottomryLoans safe = Check.on("s10 20 9 9;l0 9 1;l" + q + " " + (second - q) + " 1;l0 0 1;");
        safe.seed(7);
        due("the second DRAW is the odds by STATE 8: drift(2)", safe.drift(2), 0);
        BottomryLoans sunk = Check.on("s10 20 9 9;l0 9 1;l" + q + " " + (second - q + 1) + " 1;l0 0 1;");
        sunk.seed(7);
        due("the second DRAW is below the odds by STATE 8: drift(2)", sunk.drift(2), 2);
        due("told(8)", sunk.told(8), 1);
    }

    private static void undone() {
        sentence("UNDONE: the latest of borrow(), repair(), sail(), drift() that was not refused");
        BottomryLoans x = Check.on("s10 20 5 30;l0 0 1;l0 0 2;m99 0;");
        x.borrow(0, 0, false);
        x.borrow(0, 100, false);
        x.borrow(1, 1, false);
        x.repair(0);
        x.repair(5);
        x.drift(0);
        due("all refused: told(14)", x.told(14), 0);
        due("all refused: undo()", x.undo(), NOT);
        x.borrow(0, 10, true);
        x.repair(1);
        x.repair(9);
        x.drift(1);
        x.sail(false);
        x.sail(true);
        x.drift(1);
        due("four not refused: told(14)", x.told(14), 4);
        due("the loss is undone", x.undo(), 3);
        due("told(9)", x.told(9), 0);
        due("told(8)", x.told(8), 1);
        due("drift is undone", x.undo(), 2);
        due("told(8)", x.told(8), 0);
        due("told(2)", x.told(2), 6);
        due("the repair is undone", x.undo(), 1);
        due("told(2)", x.told(2), 5);
        due("told(3)", x.told(3), 40);
        due("the loan is undone", x.undo(), 0);
        due("told(3)", x.told(3), 30);
        due("told(6)", x.told(6), 0);
        due("lender(0, 2)", x.lender(0, 2), 99);
        sentence("all of section 2 is as ahead of it; THE SEED stays.");
        x.borrow(0, 10, true);
        x.tell(0, 4);
        x.write(5);
        x.seed(8);
        x.undo();
        due("THE SEED", x.seed(8), 8);
        due("what was TOLD PAID is not of section 2: told(12)", x.told(12), 1);
        due("THE BOOK is not of section 2: told(13)", x.told(13), 1);
    }

    private static void twenty() {
        sentence("(20 at most are kept, the oldest are lost):");
        BottomryLoans x = Check.on("s10 20 0 999;" + "l0 0 1;".repeat(7) + "m999 0;");
        int acts = 0;
        for (int l = 0; l < 7; l++) {
            x.repair(1);
            x.repair(1);
            x.sail(true);
            acts += 3;
            due("told(14)", x.told(14), Math.min(20, acts));
        }
        for (int more = 19; more >= 0; more--) {
            due("undo()", x.undo(), more);
        }
        due("a 21st is not kept", x.undo(), NOT);
        due("behind the first repair: told(2)", x.told(2), 1);
        due("behind the first repair: told(3)", x.told(3), 998);
        due("behind the first repair: told(8)", x.told(8), 0);
        // the room is used again from where it was
        for (int i = 0; i < 8; i++) {
            x.borrow(0, i + 1, false);
        }
        for (int more = 7; more >= 0; more--) {
            due("told(3)", x.told(3), 998 + (more + 1) * (more + 2) / 2);
            due("undo()", x.undo(), more);
        }
        due("told(6)", x.told(6), 0);
    }

    private static void undo() {
        sentence("The latest is undone: how many more can be. NOT: none.");
        BottomryLoans x = Check.on("s10 20 5 30;l0 0 1;");
        due("none", x.undo(), NOT);
        x.sail(true);
        due("one", x.undo(), 0);
        due("none again", x.undo(), NOT);
        due("what was undone is not done again: told(8)", x.told(8), 0);
        x.sail(false);
        due("the LOST one", x.undo(), 0);
        due("told(9)", x.told(9), 0);
    }

    private static void seed() {
        sentence("THE SEED becomes v (0 .. 2147483647): what it was. OUTSIDE.");
        BottomryLoans x = new BottomryLoans();
        due("seed(-1)", x.seed(-1), OUTSIDE);
        due("seed(-2147483648)", x.seed(LEAST), OUTSIDE);
        due("seed(2147483647)", x.seed(MOST), 0);
        due("seed(-1)", x.seed(-1), OUTSIDE);
        due("seed(0)", x.seed(0), MOST);
        due("seed(0)", x.seed(0), 0);
    }

    private static void keep() {
        sentence("IMAGE i becomes what is so (nothing can be undone then): 1. UNKNOWN.");
        BottomryLoans x = Check.on("s10 20 5 30;l0 0 1;l0 0 1;m99 0;");
        x.sail(true);
        for (int i : new int[] {LEAST, -1, 2, MOST}) {
            due("keep(" + i + ")", x.keep(i), UNKNOWN);
        }
        due("refused: told(14)", x.told(14), 1);
        due("keep(1)", x.keep(1), 1);
        due("nothing can be undone: told(14)", x.told(14), 0);
        due("nothing can be undone: undo()", x.undo(), NOT);
        due("it is so yet: told(8)", x.told(8), 1);
        due("the other was not kept: goBack(0)", x.goBack(0), NOT);
        x.borrow(0, 9, false);
        due("keep(1) again", x.keep(1), 1);
        x.borrow(0, 8, false);
        x.goBack(1);
        due("the latest is kept: told(6)", x.told(6), 1);
        due("keep(0)", x.keep(0), 1);
        x.sail(false);
        x.keep(0);
        x.goBack(1);
        due("the other is as it was: told(9)", x.told(9), 0);
        x.goBack(0);
        due("a LOST one is kept: told(9)", x.told(9), 2);
    }

    private static void goBack() {
        sentence("What is so becomes IMAGE i (nothing can be undone then): 1. UNKNOWN, NOT: it was not kept.");
        BottomryLoans x = Check.on("s10 20 5 30;l0 0 1;l0 0 1;m99 0;");
        for (int i : new int[] {LEAST, -1, 2, MOST}) {
            due("goBack(" + i + ")", x.goBack(i), UNKNOWN);
        }
        due("goBack(0), not kept", x.goBack(0), NOT);
        due("goBack(1), not kept", x.goBack(1), NOT);
        x.seed(3);
        x.borrow(0, 7, true);
        x.keep(0);
        x.seed(4);
        x.repair(2);
        x.sail(false);
        x.tell(0, 7);
        x.write(9);
        due("the other was not kept", x.goBack(1), NOT);
        due("refused: told(14)", x.told(14), 2);
        due("goBack(0)", x.goBack(0), 1);
        due("nothing can be undone: told(14)", x.told(14), 0);
        due("nothing can be undone: undo()", x.undo(), NOT);
        sentence("IMAGES 0, 1 keep all of section 2, THE SEED.");
        int[] want = {10, 20, 5, 37, 2, 1, 1, 0, 0, 0, 7, 60, 1, 1, 0};
        for (int what = 0; what < want.length; what++) {
            due("told(" + what + ")", x.told(what), want[what]);
        }
        int[] loan = {0, 7, 1, 7, 0, 0};
        for (int what = 0; what < loan.length; what++) {
            due("loan(0, " + what + ")", x.loan(0, what), loan[what]);
        }
        due("THE SEED", x.seed(9), 3);
        x.borrow(0, 1, false);
        due("goBack(0) once more", x.goBack(0), 1);
        due("what is done behind it does not change it: told(6)", x.told(6), 1);
        due("THE SEED once more", x.seed(9), 3);
    }
}
