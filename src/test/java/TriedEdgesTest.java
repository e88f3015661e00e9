/** The boundary cases of the document's section 3 and of promises 14 to 27, sentence by sentence. */
public final class TriedEdgesTest {
    private static final Check CHECK = new Check("TriedEdgesTest");
    private static final int UNKNOWN = BottomryLoans.UNKNOWN;
    private static final int OUTSIDE = BottomryLoans.OUTSIDE;
    private static final int NOT = BottomryLoans.NOT;
    private static final int FULL = BottomryLoans.FULL;
    private static final int NONE = BottomryLoans.NONE;
    private static final int MOST = Integer.MAX_VALUE;
    private static final int LEAST = Integer.MIN_VALUE;

    public static void main(String[] args) {
        lostOrNone();
        comesHome();
        rate();
        willing();
        chanceAnswers();
        paid();
        hurt();
        hurtRefused();
        share();
        plan();
        planBounds();
        planFirst();
        planAnswers();
        planFromNow();
        worth();
        worthNeverSo();
        worthAnswers();
        belief();
        beliefAnswers();
        need();
        from();
        needAnswers();
        rank();
        owed();
        judge();
        tell();
        write();
        tear();
        CHECK.finish();
    }

    private static void due(String call, long got, long want) {
        CHECK.due(call, got, want);
    }

    private static void sentence(String words) {
        CHECK.sentence(words);
    }

    private static BottomryLoans on(String text) {
        return Check.on(text);
    }

    private static void lostOrNone() {
        sentence("If she is LOST, or there is no SHIP: NOT.");
        BottomryLoans lost = on("s10 20 5 30;l0 0 1;l0 0 1;m99 0;");
        lost.borrow(0, 1, false);
        lost.sail(true);
        lost.sail(false);
        BottomryLoans none = on("  ");
        for (BottomryLoans x : new BottomryLoans[] {lost, none, new BottomryLoans()}) {
            due("comesHome()", x.comesHome(), NOT);
            due("rate()", x.rate(), NOT);
            due("willing()", x.willing(), NOT);
            due("paid(0)", x.paid(0), x == lost ? NOT : UNKNOWN);
            due("hurt(0, 1, true)", x.hurt(0, 1, true), x == lost ? NOT : UNKNOWN);
            for (int i : new int[] {-1, 0, 1, 7, -2, LEAST, MOST}) {
                due("plan(" + i + ")", x.plan(i), NOT);
            }
            for (int what = 0; what <= 2; what++) {
                due("worth(" + what + ")", x.worth(what), NOT);
            }
            due("need(0, 0)", x.need(0, 0), NOT);
        }
        lost.undo();
        due("not LOST any more: comesHome()", lost.comesHome(), 1000000);
        due("not LOST any more: paid(0)", lost.paid(0), 1);
        due("not LOST any more: worth(0)", lost.worth(0), 1000);
        due("not LOST any more: plan(0)", lost.plan(0), 0);
    }

    private static void comesHome() {
        sentence("COMES HOME: of a MILLION, LEG by LEG from now (what there is times (100 less its odds) / 100, cut; STATE 1 less behind each).");
        BottomryLoans x = on("s1 0 2 5;l10 1 1;l10 2 1;l10 3 1;l10 4 1;");
        // by states 2, 1, 0, 0 the odds are 17, 26, 37, 46: 830000, 614200, 386946, 208950.84
        due("comesHome()", x.comesHome(), 208950);
        x.repair(1);
        // by 3, 2, 1, 0: 16, 24, 34, 46: 840000, 638400, 421344, 227525.76
        due("comesHome() by state 3", x.comesHome(), 227525);
        x.sail(true);
        due("comesHome() from the second port", x.comesHome(), 270864);
        x.sail(true);
        x.sail(true);
        due("comesHome() from the last port, 46", x.comesHome(), 540000);
        x.sail(true);
        due("comesHome(), HOME", x.comesHome(), 1000000);
        due("cut at each LEG", on("s1 0 9 0;l99 0 1;l99 0 1;l99 0 1;l50 0 1;").comesHome(), 0);
        due("9999 of 10000, cut: 99 of 100", on("s1 0 9 0;l99 0 1;l1 0 1;l99 0 1;l1 0 1;").comesHome(), 98);
        due("odds of 100", on("s1 0 9 0;l0 0 1;l99 0 1;l93 1 1;").comesHome(), 500);
        due("odds of 100, not less than nothing", on("s1 0 0 0;l99 9 1;l0 0 1;").comesHome(), 0);
    }

    private static void rate() {
        sentence("RATE: the least R (0 .. 999) in the hundred by which (100 and R) times COMES HOME is 100 MILLION or more; NONE.");
        due("1000000", on("s1 0 9 0;l0 0 1;").rate(), 0);
        due("990000: 101 is 99990000", on("s1 0 9 0;l1 0 1;").rate(), 2);
        due("800000: 125 is just enough", on("s1 0 9 0;l20 0 1;").rate(), 25);
        due("500000: 200 is just enough", on("s1 0 9 0;l50 0 1;").rate(), 100);
        due("400000: 250 is just enough", on("s1 0 9 0;l60 0 1;").rate(), 150);
        due("300000: 333 is 99900000", on("s1 0 9 0;l70 0 1;").rate(), 234);
        due("100000: 1000 is just enough", on("s1 0 9 0;l90 0 1;").rate(), 900);
        BottomryLoans justLess = on("s1 0 9 0;l48 0 1;l18 0 1;l14 0 1;l10 0 1;");
        due("comesHome()", justLess.comesHome(), 330033);
        due("330033: 303 is 99999999", justLess.rate(), 204);
        BottomryLoans justMore = on("s1 0 9 0;l89 0 1;l12 0 1;l6 0 1;");
        due("comesHome()", justMore.comesHome(), 90992);
        due("90992: 1099 is 100000208", justMore.rate(), 999);
        BottomryLoans never = on("s1 0 9 0;l83 0 1;l38 0 1;l11 0 1;l3 0 1;");
        due("comesHome()", never.comesHome(), 90991);
        due("90991: 1099 is 99999109", never.rate(), NONE);
        due("90000", on("s1 0 9 0;l91 0 1;").rate(), NONE);
        due("0", on("s1 0 0 0;l99 9 1;").rate(), NONE);
        due("HOME", on("s1 0 0 0;").rate(), 0);
    }

    private static void chanceAnswers() {
        BottomryLoans x = on("s1 0 9 0;l50 0 1;l96 0 1;m9 0;m9 100;");
        sentence("COMES HOME. NOT.");
        int[] there = {20000, 40000, 1000000};
        for (int l = 0; l < there.length; l++) {
            due("comesHome() ahead of LEG " + l, x.comesHome(), there[l]);
            x.sail(true);
        }
        due("no SHIP: comesHome()", new BottomryLoans().comesHome(), NOT);
        sentence("RATE; NONE. NOT.");
        due("HOME: rate()", x.rate(), 0);
        x.undo();
        due("the last LEG: rate()", x.rate(), NONE);
        due("no SHIP: rate()", new BottomryLoans().rate(), NOT);
        sentence("WILLING. NOT.");
        due("the last LEG: willing()", x.willing(), 0);
        x.sail(true);
        due("HOME: willing()", x.willing(), 3);
        due("no SHIP: willing()", new BottomryLoans().willing(), NOT);
        x.undo();
        x.sail(false);
        due("LOST: comesHome()", x.comesHome(), NOT);
        due("LOST: rate(), not NONE", x.rate(), NOT);
        due("LOST: willing(), not nobody", x.willing(), NOT);
    }

    private static void willing() {
        sentence("WILLING: LENDERS (a SET) whose R is RATE or more (RATE is NONE: nobody).");
        due("at 0", on("s1 0 9 0;l0 0 1;m0 0;m9 200;").willing(), 3);
        due("at 2", on("s1 0 9 0;l1 0 1;m9 1;m9 2;m9 3;").willing(), 6);
        due("at 200", on("s1 0 9 0;l66 0 1;l2 0 1;m9 199;m9 200;m0 200;").willing(), 0);
        due("333333 is never there, 340000 is: at 195", on("s1 0 9 0;l66 0 1;m9 194;m9 195;m0 200;").willing(), 6);
        due("456621, 219 is 99999999: at 120", on("s1 0 9 0;l31 0 1;l19 0 1;l14 0 1;l5 0 1;m9 119;m9 120;").willing(), 2);
        due("NONE", on("s1 0 0 0;l99 9 1;m9 0;m9 200;").willing(), 0);
        due("at 900", on("s1 0 9 0;l90 0 1;m9 0;m9 200;").willing(), 0);
        due("no LENDERS", on("s1 0 9 0;l0 0 1;").willing(), 0);
        due("five", on("s1 0 9 0;l50 0 1;m0 100;m0 99;m0 99;m0 99;m0 100;").willing(), 17);
    }

    private static void paid() {
        sentence("PAID: what a LOAN is paid, were she HOME now.");
        BottomryLoans x = on("s1 0 5 0;l0 0 9;m99 100;");
        x.borrow(0, 10, false);
        due("of 1 and 10", x.paid(0), 11);
        x.repair(1);
        due("of 1 and 1", x.paid(0), 2);
        x.borrow(0, 1, false);
        due("behind another: 3 less 2", x.paid(0), 1);
        due("the other", x.paid(1), 2);
        x.sail(true);
        due("HOME", x.paid(0), 1);
        sentence("PAID. UNKNOWN, NOT.");
        for (int i : new int[] {LEAST, -1, 2, 8, MOST}) {
            due("paid(" + i + ")", x.paid(i), UNKNOWN);
        }
        x.undo();
        x.sail(false);
        due("LOST: paid(1)", x.paid(1), NOT);
        due("LOST: paid(2)", x.paid(2), UNKNOWN);
    }

    private static void hurt() {
        sentence("HURT: LOANS (a SET) that would be paid less, if one more of a LENDER, so much (1 .. 999, whether he has it or not), on the SHIP or the FREIGHT were taken (PURSE more by it).");
        BottomryLoans x = on("s1 20 5 0;l0 0 99;m99 0;m200 100;m0 200;m0 0;");
        x.borrow(0, 10, true);
        x.borrow(0, 5, true);
        x.borrow(1, 49, false);
        x.borrow(1, 50, false);
        x.repair(1);
        // on the SHIP there are 1 and 15 and 5: 21 of the last one's 100, nothing for the one ahead of it
        due("told(3)", x.told(3), 15);
        due("paid(3)", x.paid(3), 21);
        due("paid(2)", x.paid(2), 0);
        due("1 at 0 on the SHIP, which brings what it takes", x.hurt(3, 1, false), 0);
        due("999 at 0 on the SHIP", x.hurt(3, 999, false), 0);
        due("1 at 200 on the SHIP", x.hurt(2, 1, false), 8);
        due("1 at 100 on the SHIP brings 1 and takes 2", x.hurt(1, 1, false), 8);
        due("1 at 100 on FREIGHT brings 1 and takes 2", x.hurt(1, 1, true), 8);
        due("999 at 200 on the SHIP", x.hurt(2, 999, false), 8);
        due("5 at 0 on FREIGHT takes what was left", x.hurt(3, 5, true), 0);
        due("6 at 0 on FREIGHT takes of the first", x.hurt(3, 6, true), 1);
        due("15 at 0 on FREIGHT takes all of the first", x.hurt(3, 15, true), 1);
        due("16 at 0 on FREIGHT takes of the second", x.hurt(3, 16, true), 3);
        due("999 at 0 on FREIGHT", x.hurt(3, 999, true), 3);
        due("1 at 200 on FREIGHT brings 1 and takes 3", x.hurt(2, 1, true), 8);
        due("2 at 200 on FREIGHT: brings 2, takes 5 and 1", x.hurt(2, 2, true), 1 + 8);
        due("5 at 200 on FREIGHT brings 5, takes 5 that were left", x.hurt(2, 5, true), 1);
        due("nothing is taken: told(6)", x.told(6), 4);
        due("nothing is taken: told(3)", x.told(3), 15);
        BottomryLoans eight = on("s1 20 5 0;l0 0 1;m99 0;m0 200;");
        for (int i = 0; i < 8; i++) {
            eight.borrow(0, 1, true);
        }
        due("eight, just paid", eight.hurt(1, 4, true), 0);
        due("eight, the first is hurt", eight.hurt(1, 5, true), 1 + 2 + 4);
        due("eight, all are hurt", eight.hurt(1, 999, true), 255);
    }

    private static void hurtRefused() {
        sentence("HURT. UNKNOWN, OUTSIDE, NOT.");
        BottomryLoans x = on("s1 20 5 0;l0 0 99;m99 0;m200 100;");
        for (int m : new int[] {LEAST, -1, 2, 5, MOST}) {
            due("hurt(" + m + ", 1, false)", x.hurt(m, 1, false), UNKNOWN);
            due("hurt(" + m + ", 0, true)", x.hurt(m, 0, true), UNKNOWN);
        }
        for (int v : new int[] {LEAST, -1, 0, 1000, MOST}) {
            due("hurt(0, " + v + ", false)", x.hurt(0, v, false), OUTSIDE);
            due("hurt(1, " + v + ", true)", x.hurt(1, v, true), OUTSIDE);
        }
        due("no LOANS", x.hurt(1, 999, false), 0);
        x.borrow(1, 20, true);
        x.sail(true);
        due("HOME", x.hurt(0, 1, true), 1);
        x.undo();
        x.sail(false);
        due("LOST", x.hurt(0, 1, true), NOT);
        due("LOST: hurt(0, 0, true)", x.hurt(0, 0, true), OUTSIDE);
        due("LOST: hurt(2, 1, true)", x.hurt(2, 1, true), UNKNOWN);
    }

    private static void share() {
        sentence("SHARE of a LOAN in v that is SAVED: as told above, as if it were a wreck.");
        BottomryLoans x = on("s999 999 5 999;l0 0 99;m99 0;m200 100;");
        x.borrow(0, 10, false);
        x.borrow(0, 7, true);
        x.borrow(1, 4, false);
        due("nothing", x.share(2, 0), 0);
        due("of 7, DUE 8", x.share(2, 7), 7);
        due("of 8, DUE 8", x.share(2, 8), 8);
        due("of 8, behind it", x.share(0, 8), 0);
        due("of 9, behind it", x.share(0, 9), 1);
        due("of 18, behind it", x.share(0, 18), 10);
        due("of 999, behind it", x.share(0, 999), 10);
        due("on FREIGHT", x.share(1, 999), 0);
        sentence("SHARE (whether she is LOST or not). UNKNOWN, OUTSIDE.");
        for (int turn = 0; turn < 2; turn++) {
            due("share(0, 17)", x.share(0, 17), 9);
            for (int i : new int[] {LEAST, -1, 3, 8, MOST}) {
                due("share(" + i + ", 1)", x.share(i, 1), UNKNOWN);
                due("share(" + i + ", -1)", x.share(i, -1), UNKNOWN);
            }
            for (int v : new int[] {LEAST, -1, 1000, MOST}) {
                due("share(0, " + v + ")", x.share(0, v), OUTSIDE);
                due("share(1, " + v + ")", x.share(1, v), OUTSIDE);
            }
            x.sail(false);
        }
        x.undo();
        x.sail(true);
        due("HOME: share(0, 17)", x.share(0, 17), 9);
    }

    private static void plan(String when, BottomryLoans x, int much, int... points) {
        due(when + ": plan(-1)", x.plan(-1), much);
        for (int i = 0; i < points.length; i++) {
            due(when + ": plan(" + i + ")", x.plan(i), points[i]);
        }
        due(when + ": plan(" + points.length + ")", x.plan(points.length), NONE);
    }

    private static void plan() {
        sentence("PLAN: in each port from now on (of the LEGS still to come) 0, 1 or 2 points of STATE are repaired, of PURSE alone (9 at most: no more than that), so that COMES HOME times LEFT (were she HOME with the PURSE she then has) / 1000 is most;");
        // two points a port at most, though the purse has more: state 2, then 1 and 2: 46 of 37 of a hundred, of 1994
        plan("two at most", on("s999 0 0 999;l0 9 1;l0 9 1;"), 339378, 2, 2);
        // 9 at most: one at 8, none at 9
        plan("8", on("s999 0 8 999;l0 9 1;"), 1997000, 1);
        plan("9", on("s999 0 9 999;l0 9 1;"), 1998000, 0);
        plan("7", on("s999 0 7 999;l0 9 1;"), 1996000, 2);
        plan("9, and a point that was lost", on("s999 0 9 999;l0 9 1;l0 9 1;"), 1997000, 0, 1);
        // of PURSE alone: lenders do not count, a point for all of it does
        plan("the purse is 1 less", on("s999 0 7 1;l0 9 2;m999 0;"), 820000, 0);
        plan("the purse is enough for one", on("s999 0 7 2;l0 9 2;m999 0;"), 909090, 1);
        plan("one of two points", on("s999 0 7 3;l0 9 2;m999 0;"), 910000, 1);
        plan("the purse is enough for two", on("s999 0 7 4;l0 9 2;m999 0;"), 999000, 2);
        // what is repaired in the first port is not there for the second
        plan("one point in all", on("s999 0 7 5;l0 0 3;l0 9 3;"), 820820, 0, 1);
        // a cheap port ahead of a dear one
        plan("cheap first", on("s100 0 7 50;l0 0 1;l0 9 40;"), 134680, 2, 0);
        // STATE is 0 at least behind the first port: the second one's odds are 81, the point 72
        plan("0 at least", on("s999 0 0 0;l0 0 1;l0 9 1;"), 189810, 0, 0);
        plan("0 at least, and a point", on("s999 0 0 1;l0 0 99;l0 9 1;"), 279720, 0, 1);
        plan("a point that is lost on the way", on("s999 0 0 1;l0 0 1;l0 9 99;"), 190000, 0, 0);
        plan("1 less to 0", on("s999 0 1 0;l0 9 1;l0 9 1;"), 53146, 0, 0);
        // freight that is left counts, freight that loans eat does not
        BottomryLoans y = on("s1 50 8 0;l0 9 1;m9 0;");
        y.borrow(0, 9, true);
        due("told(11)", y.told(11), 51);
        plan("of 42 freight, worth 1 and purse 8", y, 50000, 1);
        // in the second port one port is to come
        BottomryLoans z = on("s999 0 8 999;l0 9 1;l0 9 1;");
        z.sail(true);
        plan("from the second port", z, 1996000, 2);
        z.sail(true);
        plan("HOME", z, 1998000);
    }

    private static void planBounds() {
        sentence("so that COMES HOME times LEFT (were she HOME with the PURSE she then has) / 1000 is most;");
        plan("the most that can be", on("s999 999 9 999;"), 2997000);
        plan("the least", on("s1 0 0 0;l99 9 1;"), 0, 0);
        // what loans on the ship eat is not left: 100 and 20 less 60, one point costs 9 of these
        BottomryLoans x = on("s100 0 8 0;l0 9 9;m20 200;");
        x.borrow(0, 20, false);
        due("told(11)", x.told(11), 60);
        plan("60 at 91 are more than 51", x, 54600, 0);
        // nothing is left whatever is done: the fewest points
        BottomryLoans y = on("s1 0 5 2;l50 5 1;l50 5 1;m99 200;");
        y.borrow(0, 2, false);
        due("told(11)", y.told(11), 0);
        plan("nothing is left", y, 0, 0, 0);
        // eight loans make the greatest purse
        BottomryLoans most = on("s999 999 9 999;l0 0 1;m999 0;m999 0;m999 0;m999 0;m999 0;");
        for (int m = 0; m < 5; m++) {
            most.borrow(m, 999, true);
        }
        due("told(11)", most.told(11), 999 + 999 + 4995);
        plan("the greatest purse", most, 6993000, 0);
    }

    private static void planFirst() {
        sentence("of like ones the first (port by port the fewest points): how much; how many points in the i-th port from here; NONE: not so many.");
        plan("a point here or there", on("s999 0 8 1;l0 0 1;l0 9 1;"), 909090, 0, 1);
        plan("no chance", on("s999 0 0 9;l99 9 1;l99 9 1;l99 9 1;"), 0, 0, 0, 0);
        plan("no risk", on("s999 0 0 9;l0 0 1;l0 0 1;"), 1008000, 0, 0);
        // 2 times 10000 or 1 times 20000: the one without points
        plan("alike", on("s1 0 8 1;l98 1 1;"), 20, 0);
        // 5050 and 5100, cut by 1000 alike
        plan("alike, cut", on("s100 0 8 1;l99 0 1;l99 0 1;l47 1 1;"), 5, 0, 0, 0);
        plan("seven ports", on("s999 0 0 9;" + "l0 0 1;".repeat(7)), 1008000, 0, 0, 0, 0, 0, 0, 0);
        plan("no port", on("s5 0 0 9;"), 14000);
    }

    private static void planAnswers() {
        sentence("PLAN: i = NONE how much, else how many points; NONE (i below -1, too). NOT.");
        BottomryLoans x = on("s999 0 8 1;l0 0 1;l0 9 1;");
        due("plan(NONE)", x.plan(NONE), 909090);
        for (int i : new int[] {LEAST, UNKNOWN, -3, -2, 2, 7, MOST}) {
            due("plan(" + i + ")", x.plan(i), NONE);
        }
        x.sail(true);
        due("one port less: plan(0)", x.plan(0), 1);
        due("one port less: plan(1)", x.plan(1), NONE);
        x.sail(false);
        due("LOST: plan(NONE)", x.plan(NONE), NOT);
        due("LOST: plan(-2)", x.plan(-2), NOT);
        due("LOST: plan(0)", x.plan(0), NOT);
    }

    private static void planFromNow() {
        sentence("TRIED from now;");
        // a plan that was answered once holds no longer than what it was made from
        BottomryLoans x = on("s999 0 8 1;l0 0 1;l0 9 1;m9 0;");
        plan("at first", x, 909090, 0, 1);
        x.keep(0);
        x.borrow(0, 1, false);
        plan("borrowed", x, 998000, 0, 2);
        x.undo();
        plan("undone", x, 909090, 0, 1);
        x.repair(1);
        plan("repaired", x, 909090, 0, 0);
        x.seed(0);
        x.drift(1);
        plan("drifted", x, 909090, 0);
        x.goBack(0);
        plan("gone back", x, 909090, 0, 1);
        x.sail(true);
        plan("SAILED", x, 909090, 1);
        x.sail(false);
        due("LOST: plan(-1)", x.plan(-1), NOT);
        x.undo();
        plan("not LOST any more", x, 909090, 1);
        Check.feed(x, "s7 0 0 0;l50 0 1;");
        x.voyage();
        plan("another voyage", x, 3500, 0);
        Check.feed(x, "s7 0 0 0;l50 0 1;x");
        x.voyage();
        plan("a faulty text", x, 3500, 0);
        x.voyage();
        due("no SHIP: plan(-1)", x.plan(-1), NOT);
    }

    private static void worth(String when, BottomryLoans x, int many, int least, int greatest) {
        due(when + ": worth(0)", x.worth(0), many);
        due(when + ": worth(1)", x.worth(1), least);
        due(when + ": worth(2)", x.worth(2), greatest);
    }

    private static void told(String when, BottomryLoans x, int loan, int paid, int many, int least, int greatest) {
        x.tear();
        x.tell(loan, paid);
        worth(when + ", " + paid + " for the loan " + loan, x, many, least, greatest);
    }

    private static void worth() {
        sentence("WORTH (0 .. 999) by which all LOANS would be paid as told (TOLD PAID, 6 at most: a LOAN, how much it was paid), in place of W, were she HOME");
        BottomryLoans x = on("s500 30 0 0;l0 0 40;l0 0 2;m400 100;m99 0;");
        worth("nothing told", x, 1000, 0, 999);
        x.borrow(0, 350, false);
        x.borrow(1, 10, false);
        x.borrow(1, 20, true);
        x.repair(9);
        // the purse is 20, the freight leaves 10: 30 besides the worth, of which the last one takes 10
        due("told(3)", x.told(3), 20);
        told("DUE 700", x, 0, 0, 0, NONE, NONE);
        told("DUE 700", x, 0, 19, 0, NONE, NONE);
        told("DUE 700", x, 0, 20, 1, 0, 0);
        told("DUE 700", x, 0, 21, 1, 1, 1);
        told("DUE 700", x, 0, 699, 1, 679, 679);
        told("DUE 700", x, 0, 700, 320, 680, 999);
        told("DUE 700", x, 0, 701, 0, NONE, NONE);
        told("DUE 10", x, 1, 9, 0, NONE, NONE);
        told("DUE 10", x, 1, 10, 1000, 0, 999);
        told("DUE 10", x, 1, 11, 0, NONE, NONE);
        told("on FREIGHT", x, 2, 19, 0, NONE, NONE);
        told("on FREIGHT", x, 2, 20, 1000, 0, 999);
        told("on FREIGHT", x, 2, 21, 0, NONE, NONE);
        x.sail(true);
        x.repair(1);
        // the purse is 18
        told("18 in the purse", x, 0, 18, 1, 0, 0);
        told("18 in the purse", x, 0, 700, 318, 682, 999);
        x.sail(true);
        told("HOME", x, 0, 700, 318, 682, 999);
        worthEdges();
        allTold(x);
    }

    /** Loans that only the greatest worth pays, or none. */
    private static void worthEdges() {
        BottomryLoans x = on("s500 0 0 0;l0 0 99;m999 100;m1 0;");
        x.borrow(0, 999, false);
        told("999 and the purse of 999", x, 0, 1998, 1, 999, 999);
        told("998 and the purse of 999", x, 0, 1997, 1, 998, 998);
        told("the purse of 999", x, 0, 999, 1, 0, 0);
        told("less than the purse", x, 0, 998, 0, NONE, NONE);
        x.repair(1);
        told("999 and 900", x, 0, 1899, 1, 999, 999);
        told("1000 and 900", x, 0, 1900, 0, NONE, NONE);
        told("1098 and 900", x, 0, 1998, 0, NONE, NONE);
        BottomryLoans y = on("s500 0 0 0;l0 0 99;m999 0;m33 200;");
        y.borrow(0, 99, false);
        y.borrow(1, 33, false);
        y.repair(1);
        // 33 are there besides the worth, the last one takes 99
        told("just nothing", y, 0, 0, 67, 0, 66);
        told("1", y, 0, 1, 1, 67, 67);
        told("all", y, 0, 99, 835, 165, 999);
        told("all of the last", y, 1, 99, 934, 66, 999);
        told("1 less of the last", y, 1, 98, 1, 65, 65);
    }

    private static void allTold(BottomryLoans x) {
        x.tear();
        for (int n = 0; n < 2; n++) {
            x.tell(0, 700);
            x.tell(1, 10);
            x.tell(2, 20);
        }
        worth("six told alike", x, 318, 682, 999);
        x.tear();
        x.tell(0, 700);
        x.tell(0, 699);
        worth("told twice otherwise", x, 0, NONE, NONE);
        x.tear();
        for (int n = 0; n < 5; n++) {
            x.tell(0, 700);
        }
        x.tell(1, 9);
        worth("the sixth is not so", x, 0, NONE, NONE);
        x.tear();
        worth("torn", x, 1000, 0, 999);
    }

    private static void worthNeverSo() {
        sentence("(one TOLD of a LOAN that is none any more is never so; if one of that number is there again, it counts of that one): how many; the least; the greatest; NONE.");
        BottomryLoans x = on("s500 30 0 0;l0 0 40;m400 100;m99 0;");
        x.borrow(1, 5, true);
        x.borrow(1, 7, false);
        x.tell(1, 0);
        x.tear();
        x.tell(1, 7);
        worth("it is there", x, 1000, 0, 999);
        x.undo();
        worth("it is none any more", x, 0, NONE, NONE);
        due("it was told yet: told(12)", x.told(12), 1);
        x.borrow(1, 7, true);
        worth("another is there again", x, 1000, 0, 999);
        x.undo();
        x.borrow(1, 8, true);
        worth("another one, paid 8", x, 0, NONE, NONE);
        x.undo();
        x.borrow(0, 5, false);
        worth("another one on the SHIP: more than 7", x, 0, NONE, NONE);
        x.undo();
        x.undo();
        x.tear();
        x.borrow(1, 5, true);
        x.tell(0, 0);
        x.undo();
        worth("told 0 of one that is none", x, 0, NONE, NONE);
        x.keep(0);
        x.borrow(1, 5, true);
        x.tear();
        x.tell(0, 5);
        worth("it is there", x, 1000, 0, 999);
        x.goBack(0);
        worth("gone by an IMAGE", x, 0, NONE, NONE);
    }

    private static void worthAnswers() {
        sentence("WORTH: what = 0 how many, 1 the least, 2 the greatest; NONE. OUTSIDE, NOT.");
        BottomryLoans x = on("s500 30 0 0;l0 0 40;m400 100;m99 0;");
        for (int what : new int[] {LEAST, -1, 3, MOST}) {
            due("worth(" + what + ")", x.worth(what), OUTSIDE);
        }
        x.borrow(0, 1, false);
        x.tell(0, 9);
        worth("how many is 0, not NONE", x, 0, NONE, NONE);
        x.sail(false);
        due("LOST: worth(0)", x.worth(0), NOT);
        due("LOST: worth(3)", x.worth(3), OUTSIDE);
    }

    private static void belief() {
        sentence("BELIEF of the owner by a letter from so many LEGS ago (0 .. 7; if fewer were SAILED: from LEG 0 on), that told STATE t (0 .. 9) then: of a MILLION that she came through the LEGS SAILED since, reckoned as for COMES HOME.");
        BottomryLoans x = on("s1 0 9 99;l10 1 1;l10 2 1;l10 3 1;l0 0 1;");
        due("none SAILED: belief(0, 0)", x.belief(0, 0), 1000000);
        due("none SAILED: belief(7, 0)", x.belief(7, 0), 1000000);
        x.sail(true);
        due("one SAILED: belief(1, 9)", x.belief(1, 9), 900000);
        due("one SAILED: belief(2, 8)", x.belief(2, 8), 890000);
        x.sail(true);
        x.sail(true);
        due("belief(0, 0)", x.belief(0, 0), 1000000);
        due("belief(1, 0)", x.belief(1, 0), 630000);
        due("belief(1, 9)", x.belief(1, 9), 900000);
        // by states 1, 0: 26, 37
        due("belief(2, 1)", x.belief(2, 1), 466200);
        // by states 0, 0: 28, 37
        due("belief(2, 0)", x.belief(2, 0), 453600);
        // by states 2, 1, 0: 17, 26, 37
        due("belief(3, 2)", x.belief(3, 2), 386946);
        due("fewer were SAILED: belief(4, 2)", x.belief(4, 2), 386946);
        due("fewer were SAILED: belief(7, 2)", x.belief(7, 2), 386946);
        BottomryLoans seven = on("s1 0 9 99;l10 0 1;" + "l0 0 1;".repeat(6));
        for (int l = 0; l < 7; l++) {
            seven.sail(true);
        }
        due("HOME: belief(6, 0)", seven.belief(6, 0), 1000000);
        due("HOME: belief(7, 0)", seven.belief(7, 0), 900000);
        BottomryLoans cut = on("s1 0 9 0;l99 0 1;l99 0 1;l99 0 1;l50 0 1;l0 0 1;");
        for (int l = 0; l < 4; l++) {
            cut.sail(true);
        }
        due("cut: belief(4, 9)", cut.belief(4, 9), 0);
        due("cut: belief(3, 9)", cut.belief(3, 9), 50);
    }

    private static void beliefAnswers() {
        sentence("BELIEF (whether she is LOST or not, there or not). OUTSIDE.");
        BottomryLoans x = on("s1 0 9 99;l10 1 1;l10 2 1;");
        x.sail(true);
        x.sail(false);
        due("LOST: belief(1, 8)", x.belief(1, 8), 890000);
        due("LOST: belief(7, 8)", x.belief(7, 8), 890000);
        due("LOST: belief(0, 8)", x.belief(0, 8), 1000000);
        due("no SHIP: belief(3, 5)", new BottomryLoans().belief(3, 5), 1000000);
        for (BottomryLoans any : new BottomryLoans[] {x, new BottomryLoans(), on("s1 0 0 0;l0 0 1;")}) {
            for (int ago : new int[] {LEAST, -1, 8, MOST}) {
                due("belief(" + ago + ", 5)", any.belief(ago, 5), OUTSIDE);
            }
            for (int state : new int[] {LEAST, -1, 10, MOST}) {
                due("belief(1, " + state + ")", any.belief(1, state), OUTSIDE);
            }
        }
    }

    private static void need() {
        sentence("NEED: what is to be borrowed to repair up to STATE t (0 .. 9) in this port: 0, if STATE is t or more, or PURSE is enough;");
        BottomryLoans x = on("s1 0 5 20;l0 0 10;l0 0 99;m99 0;");
        due("STATE is more: need(0, 0)", x.need(0, 0), 0);
        due("STATE is t: need(5, 0)", x.need(5, 0), 0);
        due("PURSE is more than enough: need(6, 0)", x.need(6, 0), 0);
        due("PURSE is just enough: need(7, 0)", x.need(7, 0), 0);
        due("need(8, 0)", x.need(8, 0), 10);
        due("need(9, 0)", x.need(9, 0), 20);
        x.borrow(0, 1, false);
        due("1 more: need(8, 0)", x.need(8, 0), 9);
        x.sail(true);
        due("in this port: need(5, 0)", x.need(5, 0), 99 - 21);
        due("in this port: need(4, 0)", x.need(4, 0), 0);
        due("in this port: need(9, 0)", x.need(9, 0), 5 * 99 - 21);
        BottomryLoans poor = on("s1 0 0 0;l0 0 99;");
        due("the most: need(9, 0)", poor.need(9, 0), 891);
        due("an empty PURSE: need(0, 0)", poor.need(0, 0), 0);
        due("an empty PURSE: need(1, 0)", poor.need(1, 0), 99);
        BottomryLoans just = on("s1 0 0 98;l0 0 99;");
        due("1 less than enough: need(1, 0)", just.need(1, 0), 1);
    }

    private static void from() {
        sentence("FROM: the LENDER of least R who has so much yet (of like ones the least; also for 0); NONE.");
        BottomryLoans x = on("s1 0 5 0;l0 0 10;m40 9;m29 3;m30 4;m30 4;m0 1;");
        due("for 0: need(0, 1)", x.need(0, 1), 4);
        due("for 0: need(5, 1)", x.need(5, 1), 4);
        due("for 10: need(6, 1)", x.need(6, 1), 1);
        due("for 20: need(7, 1)", x.need(7, 1), 1);
        due("for 30, of like ones the least: need(8, 1)", x.need(8, 1), 2);
        due("for 40: need(9, 1)", x.need(9, 1), 0);
        BottomryLoans y = on("s1 0 5 0;l0 0 10;m40 9;m30 3;m9 3;");
        y.borrow(0, 10, false);
        // 10 in the purse: for 8 points 20, for 9 points 30
        due("for 30, who has 30: need(9, 1)", y.need(9, 1), 1);
        y.borrow(1, 1, false);
        due("for 29, who has 29 yet: need(9, 1)", y.need(9, 1), 1);
        due("for 29, 30 yet at 9: need(9, 0)", y.need(9, 0), 29);
        y.sail(true);
        due("HOME: need(9, 1)", y.need(9, 1), NOT);
        y.undo();
        y.repair(1);
        // 1 in the purse, state 6: for 9 points 29
        due("need(9, 0)", y.need(9, 0), 29);
        due("need(9, 1)", y.need(9, 1), 1);
        BottomryLoans z = on("s1 0 5 0;l0 0 10;m39 0;m10 200;");
        due("nobody has 40: need(9, 1)", z.need(9, 1), NONE);
        due("one has 30: need(8, 1)", z.need(8, 1), 0);
        BottomryLoans none = on("s1 0 5 0;l0 0 10;");
        due("no LENDERS, for 0: need(0, 1)", none.need(0, 1), NONE);
        due("no LENDERS, for 40: need(9, 1)", none.need(9, 1), NONE);
        due("no LENDERS, for 40: need(9, 0)", none.need(9, 0), 40);
        due("of like ones the least, for 0", on("s1 0 5 0;l0 0 1;m0 7;m0 6;m5 6;").need(0, 1), 1);
        due("200 is the greatest, for 0", on("s1 0 5 0;l0 0 1;m0 200;m5 200;").need(0, 1), 0);
    }

    private static void needAnswers() {
        sentence("NEED: what = 0 how much, 1 FROM (NONE). OUTSIDE, NOT: no port.");
        BottomryLoans x = on("s1 0 5 0;l0 0 10;m39 0;");
        for (int t : new int[] {LEAST, -1, 10, MOST}) {
            due("need(" + t + ", 0)", x.need(t, 0), OUTSIDE);
            due("need(" + t + ", 1)", x.need(t, 1), OUTSIDE);
        }
        for (int what : new int[] {LEAST, -1, 2, MOST}) {
            due("need(9, " + what + ")", x.need(9, what), OUTSIDE);
        }
        x.sail(true);
        due("HOME: need(0, 0)", x.need(0, 0), NOT);
        due("HOME: need(0, 1)", x.need(0, 1), NOT);
        due("HOME: need(10, 0)", x.need(10, 0), OUTSIDE);
        x.undo();
        x.sail(false);
        due("LOST: need(0, 0)", x.need(0, 0), NOT);
        due("LOST: need(0, 2)", x.need(0, 2), OUTSIDE);
        due("without LEGS: need(0, 0)", on("s1 0 5 0;m9 0;").need(0, 0), NOT);
        due("no SHIP: need(0, 0)", new BottomryLoans().need(0, 0), NOT);
        due("no SHIP: need(10, 0)", new BottomryLoans().need(10, 0), OUTSIDE);
    }

    private static void rank() {
        sentence("RANK of a LOAN: how many are paid ahead of it, were she HOME.");
        BottomryLoans x = on("s1 0 5 0;l0 0 10;m99 0;");
        x.borrow(0, 1, false);
        due("the only one", x.loan(0, 5), 0);
        x.borrow(0, 1, true);
        due("FREIGHT is paid ahead", x.loan(0, 5), 1);
        due("though there is none: loan(1, 5)", x.loan(1, 5), 0);
        x.borrow(0, 1, false);
        x.borrow(0, 1, true);
        int[] four = {3, 1, 2, 0};
        for (int i = 0; i < four.length; i++) {
            due("of four: loan(" + i + ", 5)", x.loan(i, 5), four[i]);
        }
        for (int i = 4; i < 8; i++) {
            x.borrow(0, 1, i % 2 == 0);
        }
        int[] eight = {7, 3, 6, 2, 1, 5, 0, 4};
        for (int i = 0; i < eight.length; i++) {
            due("of eight: loan(" + i + ", 5)", x.loan(i, 5), eight[i]);
        }
        x.sail(false);
        due("LOST: loan(0, 5)", x.loan(0, 5), 7);
    }

    private static void owed() {
        sentence("LEFT to the owner; OWED: DUE of all together.");
        BottomryLoans x = on("s1 9 5 0;l0 0 10;m999 200;");
        due("none: told(10)", x.told(10), 0);
        due("none: told(11)", x.told(11), 10);
        x.borrow(0, 1, false);
        due("told(10)", x.told(10), 3);
        due("told(11)", x.told(11), 8);
        x.borrow(0, 100, true);
        due("more than there is: told(10)", x.told(10), 303);
        due("101 and 1, less 3: told(11)", x.told(11), 99);
        x.sail(false);
        due("LOST: told(10)", x.told(10), 303);
        due("LOST: told(11)", x.told(11), 0);
    }

    private static void judge() {
        sentence("THE BOOK (15 at most) tells PURSES: WRONG: the first that is not as now; NONE.");
        BottomryLoans x = on("s1 9 5 7;l0 0 3;m999 200;");
        due("an empty BOOK", x.judge(), NONE);
        x.write(7);
        due("as now", x.judge(), NONE);
        for (int n = 1; n < 15; n++) {
            due("write(7)", x.write(7), n + 1);
        }
        due("15 as now", x.judge(), NONE);
        x.repair(1);
        due("all are wrong: the first", x.judge(), 0);
        x.undo();
        due("as then", x.judge(), NONE);
        x.tear();
        for (int n = 0; n < 14; n++) {
            x.write(7);
        }
        x.write(6);
        due("the last is wrong", x.judge(), 14);
        sentence("WRONG; NONE.");
        x.tear();
        x.write(7);
        x.write(8);
        x.write(9);
        due("the first of two wrong ones", x.judge(), 1);
        x.sail(true);
        due("HOME", x.judge(), 1);
        x.undo();
        x.sail(false);
        due("LOST", x.judge(), 1);
        BottomryLoans none = new BottomryLoans();
        due("no SHIP, no BOOK", none.judge(), NONE);
        none.write(0);
        due("no SHIP, no PURSE", none.judge(), NONE);
        none.write(9999);
        due("no SHIP, 9999", none.judge(), 1);
        BottomryLoans rich = on("s1 9 5 999;l0 0 3;m999 0;m999 0;m999 0;m999 0;m999 0;");
        for (int m = 0; m < 5; m++) {
            rich.borrow(m, 999, true);
        }
        rich.write(5994);
        due("the greatest PURSE", rich.judge(), NONE);
    }

    private static void tell() {
        sentence("TOLD PAID: how many are told then. UNKNOWN, OUTSIDE (v 0 .. 9999), FULL (6).");
        BottomryLoans x = on("s1 9 5 7;l0 0 3;m999 200;");
        due("no LOAN", x.tell(0, 0), UNKNOWN);
        x.borrow(0, 1, false);
        for (int i : new int[] {LEAST, -1, 1, 8, MOST}) {
            due("tell(" + i + ", 0)", x.tell(i, 0), UNKNOWN);
            due("tell(" + i + ", -1)", x.tell(i, -1), UNKNOWN);
        }
        for (int v : new int[] {LEAST, -1, 10000, MOST}) {
            due("tell(0, " + v + ")", x.tell(0, v), OUTSIDE);
        }
        due("told(12)", x.told(12), 0);
        due("tell(0, 0)", x.tell(0, 0), 1);
        due("tell(0, 9999)", x.tell(0, 9999), 2);
        x.sail(false);
        for (int n = 3; n <= 6; n++) {
            due("LOST: tell(0, 0)", x.tell(0, 0), n);
        }
        due("tell(0, 0), a seventh", x.tell(0, 0), FULL);
        due("tell(0, 10000), a seventh", x.tell(0, 10000), OUTSIDE);
        due("tell(1, 0), a seventh", x.tell(1, 0), UNKNOWN);
        due("told(12)", x.told(12), 6);
        x.tear();
        due("tell(0, 0), torn", x.tell(0, 0), 1);
    }

    private static void write() {
        sentence("An entry behind THE BOOK (0 .. 9999): how many. OUTSIDE, FULL (15).");
        BottomryLoans x = new BottomryLoans();
        for (int purse : new int[] {LEAST, -1, 10000, MOST}) {
            due("write(" + purse + ")", x.write(purse), OUTSIDE);
        }
        due("told(13)", x.told(13), 0);
        due("write(0)", x.write(0), 1);
        due("write(9999)", x.write(9999), 2);
        due("behind, not ahead: judge()", x.judge(), 1);
        for (int n = 3; n <= 15; n++) {
            due("write(1)", x.write(1), n);
        }
        due("write(1), a sixteenth", x.write(1), FULL);
        due("write(10000), a sixteenth", x.write(10000), OUTSIDE);
        due("told(13)", x.told(13), 15);
        x.tear();
        due("write(1), torn", x.write(1), 1);
    }

    private static void tear() {
        sentence("Nothing is TOLD PAID, THE BOOK is empty: how many both had.");
        BottomryLoans x = on("s1 9 5 7;l0 0 3;m999 200;");
        due("nothing", x.tear(), 0);
        x.borrow(0, 1, false);
        x.tell(0, 9);
        due("one TOLD", x.tear(), 1);
        x.write(3);
        due("one entry", x.tear(), 1);
        for (int n = 0; n < 15; n++) {
            x.tell(0, 9);
            x.write(3);
        }
        due("6 and 15", x.tear(), 21);
        due("told(12)", x.told(12), 0);
        due("told(13)", x.told(13), 0);
        due("worth(0)", x.worth(0), 1000);
        due("judge()", x.judge(), NONE);
        due("nothing again", x.tear(), 0);
        due("what can be undone stays: told(14)", x.told(14), 1);
    }
}
