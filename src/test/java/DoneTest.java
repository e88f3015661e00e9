/** Promises 9 to 13: borrow, repair, sail, drift, undo. */
public final class DoneTest {
    private static final Check CHECK = new Check("DoneTest");
    private static final int UNKNOWN = BottomryLoans.UNKNOWN;
    private static final int OUTSIDE = BottomryLoans.OUTSIDE;
    private static final int NOT = BottomryLoans.NOT;
    private static final int FULL = BottomryLoans.FULL;

    public static void main(String[] args) {
        borrow();
        borrowFull();
        repair();
        sail();
        drift();
        driftDraws();
        undo();
        undoTwenty();
        refusedActsAreNotKept();
        CHECK.finish();
    }

    private static void due(String call, long got, long want) {
        CHECK.due(call, got, want);
    }

    private static void borrow() {
        BottomryLoans x = Check.on("s200 60 5 10;l10 1 8;m150 30;m999 200;");
        due("borrow(2, 0, false)", x.borrow(2, 0, false), UNKNOWN);
        due("borrow(-1, 1, true)", x.borrow(-1, 1, true), UNKNOWN);
        due("borrow(0, 0, false)", x.borrow(0, 0, false), OUTSIDE);
        due("borrow(0, 1000, false)", x.borrow(0, 1000, false), OUTSIDE);
        due("borrow(0, MIN, true)", x.borrow(0, Integer.MIN_VALUE, true), OUTSIDE);
        due("borrow(0, 151, true)", x.borrow(0, 151, true), NOT);
        due("refused: told(3)", x.told(3), 10);
        due("borrow(0, 150, true)", x.borrow(0, 150, true), 0);
        due("told(3)", x.told(3), 160);
        due("borrow(0, 1, false)", x.borrow(0, 1, false), NOT);
        due("borrow(1, 999, false)", x.borrow(1, 999, false), 1);
        due("told(3)", x.told(3), 1159);
        due("loan(1, 3)", x.loan(1, 3), 2997);
        x.undo();
        x.sail(true);
        due("home: borrow(1, 1, false)", x.borrow(1, 1, false), NOT);
        due("home: borrow(1, 0, false)", x.borrow(1, 0, false), OUTSIDE);
        x.undo();
        x.sail(false);
        due("lost: borrow(1, 1, false)", x.borrow(1, 1, false), NOT);
    }

    private static void borrowFull() {
        BottomryLoans x = Check.on("s200 60 5 10;l10 1 8;m8 30;m5 0;");
        for (int i = 0; i < 8; i++) {
            due("borrow, the loan " + i, x.borrow(0, 1, i % 2 == 0), i);
        }
        due("borrow, he has not so much and full", x.borrow(0, 1, false), NOT);
        due("borrow, full", x.borrow(1, 1, false), FULL);
        due("full: told(6)", x.told(6), 8);
        due("full: told(14)", x.told(14), 8);
        x.undo();
        due("borrow, room again", x.borrow(1, 5, false), 7);
    }

    private static void repair() {
        BottomryLoans x = Check.on("s200 60 5 33;l0 0 8;l0 0 12;m150 30;");
        due("repair(0)", x.repair(0), OUTSIDE);
        due("repair(10)", x.repair(10), OUTSIDE);
        due("repair(MAX)", x.repair(Integer.MAX_VALUE), OUTSIDE);
        due("repair(5), above 9", x.repair(5), NOT);
        due("repair(4)", x.repair(4), 9);
        due("told(3)", x.told(3), 1);
        due("repair(1), above 9", x.repair(1), NOT);
        x.sail(true);
        x.borrow(0, 11, false);
        due("repair(1) for all of the purse", x.repair(1), 9);
        due("told(3), empty", x.told(3), 0);
        x.sail(true);
        due("home: repair(1)", x.repair(1), NOT);
        due("home: repair(0)", x.repair(0), OUTSIDE);
        BottomryLoans rich = Check.on("s200 60 0 9;l0 0 1;");
        due("repair(9)", rich.repair(9), 9);
        due("told(3), empty", rich.told(3), 0);
        BottomryLoans poor = Check.on("s200 60 0 7;l0 0 8;");
        due("repair(1), purse is less", poor.repair(1), NOT);
        poor.sail(false);
        due("lost: repair(1)", poor.repair(1), NOT);
    }

    private static void sail() {
        BottomryLoans x = Check.on("s200 60 1 33;l99 9 8;l0 0 12;l0 0 1;");
        due("sail(true)", x.sail(true), 1);
        due("told(2)", x.told(2), 0);
        due("sail(true)", x.sail(true), 2);
        due("told(2), 0 at least", x.told(2), 0);
        due("told(9)", x.told(9), 0);
        due("sail(false)", x.sail(false), 2);
        due("told(9), lost", x.told(9), 2);
        due("lost: sail(true)", x.sail(true), NOT);
        due("lost: sail(false)", x.sail(false), NOT);
        x.undo();
        due("sail(true)", x.sail(true), 3);
        due("told(9), home", x.told(9), 1);
        due("home: sail(true)", x.sail(true), NOT);
        due("home: sail(false)", x.sail(false), NOT);
        due("no legs: sail(true)", Check.on("s1 0 0 0;").sail(true), NOT);
    }

    private static void drift() {
        BottomryLoans x = Check.on("s200 60 9 33;l0 0 8;l0 0 12;l0 0 1;");
        due("drift(0)", x.drift(0), OUTSIDE);
        due("drift(8)", x.drift(8), OUTSIDE);
        due("drift(-1)", x.drift(-1), OUTSIDE);
        due("refused: the seed", x.seed(0), 0);
        due("drift(2)", x.drift(2), 0);
        due("told(8)", x.told(8), 2);
        due("told(2)", x.told(2), 7);
        due("drift(7), home", x.drift(7), 1);
        due("told(8)", x.told(8), 3);
        due("home: drift(1)", x.drift(1), NOT);
        due("home: drift(8)", x.drift(8), OUTSIDE);
        due("undo()", x.undo(), 1);
        due("told(8), one call undone", x.told(8), 2);
        due("undo()", x.undo(), 0);
        due("told(8), two legs undone at once", x.told(8), 0);
        x.sail(false);
        due("lost: drift(1)", x.drift(1), NOT);
    }

    /** Draws as the document reckons them, by this test's own reckoning. */
    private static void driftDraws() {
        for (int seed = 0; seed < 40; seed++) {
            long next = (seed * 53687091L * 1103515245L + 12345L) % 2147483648L;
            int draw = (int) (next / 65536 % 100);
            String text = "s200 60 9 33;l" + Math.min(99, draw) + " 0 8;l50 0 12;";
            BottomryLoans x = Check.on(text);
            x.seed(seed * 53687091);
            due("drift(1), the draw is the odds", x.drift(1), 0);
            due("the seed drawn once", x.seed(0), next);
            BottomryLoans y = Check.on("s200 60 9 33;l" + Math.min(99, draw + 1) + " 0 8;l50 0 12;");
            y.seed(seed * 53687091);
            due("drift(7), the draw is below", draw == 99 ? 2 : y.drift(7), 2);
            due("lost in the first leg", y.told(8), 0);
            due("no draw for a lost ship", draw == 99 ? next : y.seed(0), next);
        }
        BottomryLoans sure = Check.on("s200 60 0 33;l99 9 8;");
        due("odds of 100", sure.drift(1), 2);
    }

    private static void undo() {
        BottomryLoans x = Check.on("s200 60 5 10;l10 1 8;l0 0 5;m150 30;");
        due("undo(), none", x.undo(), NOT);
        x.borrow(0, 100, true);
        x.repair(1);
        x.tell(0, 9);
        x.write(4);
        x.sail(true);
        x.seed(9);
        x.sail(false);
        due("undo() the loss", x.undo(), 3);
        due("told(9)", x.told(9), 0);
        due("undo() the leg", x.undo(), 2);
        due("told(8)", x.told(8), 0);
        due("told(2)", x.told(2), 6);
        due("undo() the repair", x.undo(), 1);
        due("told(2)", x.told(2), 5);
        due("told(3)", x.told(3), 110);
        due("undo() the loan", x.undo(), 0);
        due("told(3)", x.told(3), 10);
        due("told(6)", x.told(6), 0);
        due("undo(), none more", x.undo(), NOT);
        due("what was told stays", x.told(12), 1);
        due("the book stays", x.told(13), 1);
        due("the seed stays", x.seed(0), 9);
    }

    private static void undoTwenty() {
        BottomryLoans x = Check.on("s200 60 0 999;l0 0 1;m150 30;");
        for (int i = 1; i <= 13; i++) {
            // by turns a loan and its undoing, so that the kept acts go round their room
            x.borrow(0, 1, false);
            x.undo();
        }
        due("told(14), all undone", x.told(14), 0);
        for (int i = 0; i < 8; i++) {
            x.borrow(0, 1, false);
        }
        for (int i = 0; i < 9; i++) {
            x.repair(1);
        }
        due("told(14)", x.told(14), 17);
        x.sail(true);
        for (int i = 17; i >= 0; i--) {
            due("undo() of 18", x.undo(), i);
        }
        manyActs();
    }

    private static void manyActs() {
        BottomryLoans x = Check.on("s200 60 0 999;" + "l0 0 1;".repeat(7) + "m150 30;");
        for (int i = 0; i < 7; i++) {
            x.borrow(0, 1, false);
            x.repair(1);
            x.repair(1);
            x.sail(true);
            due("told(14), 20 at most", x.told(14), Math.min(20, 4 * i + 4));
        }
        for (int i = 19; i >= 0; i--) {
            due("undo() of 20", x.undo(), i);
        }
        due("the oldest are lost", x.undo(), NOT);
        due("told(8) behind 20 undone", x.told(8), 2);
        due("told(6) behind 20 undone", x.told(6), 2);
        due("told(2) behind 20 undone", x.told(2), 2);
        due("told(3) behind 20 undone", x.told(3), 997);
    }

    private static void refusedActsAreNotKept() {
        BottomryLoans x = Check.on("s200 60 5 10;l10 1 8;m150 30;");
        x.borrow(1, 1, false);
        x.borrow(0, 0, false);
        x.borrow(0, 151, false);
        x.repair(0);
        x.repair(2);
        x.drift(8);
        due("told(14), all refused", x.told(14), 0);
        x.sail(true);
        x.sail(true);
        x.drift(1);
        due("told(14), one sailed", x.told(14), 1);
    }
}
