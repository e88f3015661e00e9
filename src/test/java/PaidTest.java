/** Promises 23 to 30: tell, worth, write, tear, judge, seed, keep, goBack. */
public final class PaidTest {
    private static final Check CHECK = new Check("PaidTest");
    private static final int UNKNOWN = BottomryLoans.UNKNOWN;
    private static final int OUTSIDE = BottomryLoans.OUTSIDE;
    private static final int NOT = BottomryLoans.NOT;
    private static final int FULL = BottomryLoans.FULL;
    private static final int NONE = BottomryLoans.NONE;

    public static void main(String[] args) {
        tell();
        worth();
        worthOfFreight();
        worthOfUndone();
        write();
        tear();
        judge();
        seed();
        keepAndGoBack();
        imagesForgetWhatCanBeUndone();
        CHECK.finish();
    }

    private static void due(String call, long got, long want) {
        CHECK.due(call, got, want);
    }

    private static void tell() {
        BottomryLoans x = Check.on("s200 60 5 10;l10 1 8;m150 30;");
        due("tell(0, 0), no loan", x.tell(0, 0), UNKNOWN);
        x.borrow(0, 9, false);
        due("tell(1, -1)", x.tell(1, -1), UNKNOWN);
        due("tell(-1, 0)", x.tell(-1, 0), UNKNOWN);
        due("tell(0, -1)", x.tell(0, -1), OUTSIDE);
        due("tell(0, 10000)", x.tell(0, 10000), OUTSIDE);
        due("tell(0, 9999)", x.tell(0, 9999), 1);
        due("tell(0, 0)", x.tell(0, 0), 2);
        x.sail(false);
        due("lost: tell(0, 0)", x.tell(0, 0), 3);
        for (int n = 4; n <= 6; n++) {
            due("tell(0, 1)", x.tell(0, 1), n);
        }
        due("tell(0, 1), full", x.tell(0, 1), FULL);
        due("tell(0, 10000), full", x.tell(0, 10000), OUTSIDE);
        due("told(12)", x.told(12), 6);
    }

    private static void worths(BottomryLoans x, String when, int many, int least, int greatest) {
        due(when + ": worth(0)", x.worth(0), many);
        due(when + ": worth(1)", x.worth(1), least);
        due(when + ": worth(2)", x.worth(2), greatest);
    }

    private static void worth() {
        BottomryLoans x = Check.on("s200 60 5 0;l10 1 99;m999 100;m999 0;");
        worths(x, "nothing told", 1000, 0, 999);
        due("worth(-1)", x.worth(-1), OUTSIDE);
        due("worth(3)", x.worth(3), OUTSIDE);
        x.borrow(0, 300, false);
        x.borrow(1, 100, false);
        x.repair(4);
        // 4 and 60 besides the worth, 100 ahead, 600 due
        due("told(3)", x.told(3), 4);
        x.tell(0, 0);
        worths(x, "nothing paid", 37, 0, 36);
        x.tear();
        x.tell(0, 1);
        worths(x, "1 paid", 1, 37, 37);
        x.tear();
        x.tell(0, 599);
        worths(x, "599 paid", 1, 635, 635);
        x.tear();
        x.tell(0, 600);
        worths(x, "all paid", 364, 636, 999);
        x.tell(1, 100);
        worths(x, "both paid", 364, 636, 999);
        x.tell(1, 99);
        worths(x, "never both", 0, NONE, NONE);
        x.tear();
        x.tell(0, 601);
        worths(x, "more than is due", 0, NONE, NONE);
        x.tear();
        x.tell(1, 63);
        worths(x, "less than is there without her", 0, NONE, NONE);
        x.tear();
        x.tell(1, 64);
        worths(x, "worth nothing", 1, 0, 0);
        x.sail(true);
        worths(x, "home", 1, 0, 0);
        x.undo();
        x.sail(false);
        due("lost: worth(0)", x.worth(0), NOT);
        due("lost: worth(3)", x.worth(3), OUTSIDE);
        BottomryLoans dear = Check.on("s200 0 5 0;l10 1 99;m999 100;");
        dear.borrow(0, 999, false);
        dear.tell(0, 1998);
        worths(dear, "998 worth or more and 999 in the purse", 1, 999, 999);
        dear.repair(1);
        worths(dear, "more than any worth", 0, NONE, NONE);
    }

    private static void worthOfFreight() {
        BottomryLoans x = Check.on("s200 60 5 0;l10 1 99;m999 100;");
        x.borrow(0, 20, true);
        x.borrow(0, 15, true);
        x.tell(1, 30);
        worths(x, "freight as it is", 1000, 0, 999);
        x.tell(0, 30);
        worths(x, "freight in part", 1000, 0, 999);
        x.tell(0, 31);
        worths(x, "freight otherwise", 0, NONE, NONE);
        x.tear();
        x.tell(0, 40);
        worths(x, "freight not whole", 0, NONE, NONE);
        x.tear();
        x.tell(0, 0);
        worths(x, "freight not nothing", 0, NONE, NONE);
    }

    private static void worthOfUndone() {
        BottomryLoans x = Check.on("s200 60 5 0;l10 1 99;m999 100;m99 0;");
        x.borrow(1, 50, false);
        x.tell(0, 50);
        worths(x, "there", 1000, 0, 999);
        x.undo();
        worths(x, "none any more", 0, NONE, NONE);
        x.borrow(0, 25, true);
        worths(x, "there again, on freight", 1000, 0, 999);
        x.undo();
        x.borrow(0, 100, false);
        worths(x, "there again, it counts of that one", 0, NONE, NONE);
        x.undo();
        x.borrow(1, 51, false);
        worths(x, "there again, but never so little", 0, NONE, NONE);
    }

    private static void write() {
        BottomryLoans x = new BottomryLoans();
        due("write(-1)", x.write(-1), OUTSIDE);
        due("write(10000)", x.write(10000), OUTSIDE);
        due("write(9999)", x.write(9999), 1);
        for (int n = 2; n <= 15; n++) {
            due("write(0)", x.write(0), n);
        }
        due("write(0), full", x.write(0), FULL);
        due("write(-1), full", x.write(-1), OUTSIDE);
        due("told(13)", x.told(13), 15);
    }

    private static void tear() {
        BottomryLoans x = Check.on("s200 60 5 10;l10 1 8;m150 30;");
        due("tear(), nothing", x.tear(), 0);
        x.borrow(0, 9, false);
        x.tell(0, 5);
        x.tell(0, 6);
        x.write(5);
        x.write(6);
        x.write(7);
        due("tear()", x.tear(), 5);
        due("told(12)", x.told(12), 0);
        due("told(13)", x.told(13), 0);
        due("the loans stay", x.told(6), 1);
        due("tear() again", x.tear(), 0);
        due("worth(0)", x.worth(0), 1000);
    }

    private static void judge() {
        BottomryLoans x = Check.on("s200 60 5 10;l10 1 8;m150 30;");
        due("judge(), no book", x.judge(), NONE);
        x.write(10);
        x.write(10);
        due("judge()", x.judge(), NONE);
        x.write(11);
        due("judge()", x.judge(), 2);
        x.borrow(0, 1, false);
        due("judge() by another purse", x.judge(), 0);
        x.tear();
        x.write(11);
        x.sail(false);
        due("lost: judge()", x.judge(), NONE);
        BottomryLoans none = new BottomryLoans();
        none.write(0);
        none.write(1);
        due("no ship: judge()", none.judge(), 1);
    }

    private static void seed() {
        BottomryLoans x = new BottomryLoans();
        due("seed(-1)", x.seed(-1), OUTSIDE);
        due("seed(MIN)", x.seed(Integer.MIN_VALUE), OUTSIDE);
        due("seed(MAX)", x.seed(Integer.MAX_VALUE), 0);
        due("seed(0)", x.seed(0), Integer.MAX_VALUE);
        due("seed(1)", x.seed(1), 0);
    }

    private static void keepAndGoBack() {
        BottomryLoans x = Check.on("s200 60 5 30;l10 1 8;l0 0 1;m150 30;m99 9;");
        due("goBack(0), not kept", x.goBack(0), NOT);
        due("goBack(2)", x.goBack(2), UNKNOWN);
        due("goBack(-1)", x.goBack(-1), UNKNOWN);
        due("keep(2)", x.keep(2), UNKNOWN);
        due("keep(-1)", x.keep(-1), UNKNOWN);
        x.borrow(0, 20, false);
        x.repair(1);
        x.seed(5);
        due("keep(0)", x.keep(0), 1);
        x.sail(true);
        x.borrow(1, 99, true);
        x.seed(6);
        x.sail(false);
        due("keep(1)", x.keep(1), 1);
        x.tell(0, 1);
        x.write(2);
        due("goBack(0)", x.goBack(0), 1);
        int[] early = {200, 60, 6, 42, 2, 2, 1, 0, 0, 0, 26, 276, 1, 1, 0};
        for (int what = 0; what < early.length; what++) {
            due("gone back to 0: told(" + what + ")", x.told(what), early[what]);
        }
        due("the seed of 0", x.seed(7), 5);
        x.borrow(1, 9, true);
        due("goBack(1)", x.goBack(1), 1);
        int[] late = {200, 60, 5, 141, 2, 2, 2, 0, 1, 2, 133, 0, 1, 1, 0};
        for (int what = 0; what < late.length; what++) {
            due("gone back to 1: told(" + what + ")", x.told(what), late[what]);
        }
        due("the seed of 1", x.seed(7), 6);
        due("loan(1, 1)", x.loan(1, 1), 99);
        due("loan(1, 4)", x.loan(1, 4), 1);
        due("goBack(0), once more", x.goBack(0), 1);
        due("told(6)", x.told(6), 1);
        BottomryLoans none = new BottomryLoans();
        due("no ship: keep(0)", none.keep(0), 1);
        due("no ship: goBack(1)", none.goBack(1), NOT);
        due("no ship: goBack(0)", none.goBack(0), 1);
    }

    private static void imagesForgetWhatCanBeUndone() {
        BottomryLoans x = Check.on("s200 60 5 30;l10 1 8;l0 0 1;m150 30;m99 9;");
        x.sail(true);
        x.keep(2);
        x.goBack(0);
        due("refused: told(14)", x.told(14), 1);
        x.keep(0);
        due("kept: told(14)", x.told(14), 0);
        due("kept: undo()", x.undo(), NOT);
        x.borrow(0, 1, false);
        x.goBack(0);
        due("gone back: told(14)", x.told(14), 0);
        due("gone back: undo()", x.undo(), NOT);
        x.borrow(0, 2, false);
        due("undo() of what came behind", x.undo(), 0);
        due("told(8)", x.told(8), 1);
    }
}
