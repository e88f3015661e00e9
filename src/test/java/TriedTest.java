/** Promises 14 to 22: comesHome, rate, willing, paid, hurt, share, plan, belief, need. */
public final class TriedTest {
    private static final Check CHECK = new Check("TriedTest");
    private static final int UNKNOWN = BottomryLoans.UNKNOWN;
    private static final int OUTSIDE = BottomryLoans.OUTSIDE;
    private static final int NOT = BottomryLoans.NOT;
    private static final int NONE = BottomryLoans.NONE;

    public static void main(String[] args) {
        comesHome();
        rate();
        willing();
        paid();
        hurt();
        hurtByTheLastOnly();
        share();
        plan();
        planOfLikeOnesTheFirst();
        planKeepsUp();
        belief();
        need();
        refusedWhenLostOrNone();
        CHECK.finish();
    }

    private static void due(String call, long got, long want) {
        CHECK.due(call, got, want);
    }

    private static void comesHome() {
        BottomryLoans x = Check.on("s200 60 1 99;l33 1 8;l7 2 12;l9 9 5;");
        // odds by state 1, 0, 0: 41, 25, 90: 590000, 442500, 44250
        due("comesHome()", x.comesHome(), 44250);
        x.repair(8);
        // odds by state 9, 8, 7: 33, 9, 27: 670000, 609700, 445081
        due("comesHome(), repaired", x.comesHome(), 445081);
        x.sail(true);
        due("comesHome(), on the way", x.comesHome(), 664300);
        x.sail(true);
        x.sail(true);
        due("comesHome(), home", x.comesHome(), 1000000);
        due("comesHome(), cut", Check.on("s1 0 9 0;l99 0 1;l99 0 1;l99 0 1;l67 0 1;").comesHome(), 0);
        due("comesHome(), cut", Check.on("s1 0 9 0;l99 0 1;l99 0 1;l67 0 1;l67 0 1;").comesHome(), 10);
        due("comesHome(), 100 at most", Check.on("s1 0 0 0;l99 9 1;").comesHome(), 0);
    }

    private static void rate() {
        due("rate(), home", Check.on("s1 0 9 0;").rate(), 0);
        due("rate() of odds 50", Check.on("s1 0 9 0;l50 0 1;").rate(), 100);
        due("rate() of odds 1", Check.on("s1 0 9 0;l1 0 1;").rate(), 2);
        due("rate() of odds 20", Check.on("s1 0 9 0;l20 0 1;").rate(), 25);
        due("rate() of odds 90", Check.on("s1 0 9 0;l90 0 1;").rate(), 900);
        due("rate() of odds 91", Check.on("s1 0 9 0;l91 0 1;").rate(), NONE);
        // 91000 times 1099 is 100009000, 90944 times 1099 is 99947456
        due("rate(), nearly the most", Check.on("s1 0 9 0;l30 0 1;l87 0 1;").rate(), 999);
        due("rate(), just above", Check.on("s1 0 9 0;l42 0 1;l51 0 1;l68 0 1;").rate(), NONE);
        due("rate() of no chance", Check.on("s1 0 0 0;l99 9 1;").rate(), NONE);
    }

    private static void willing() {
        String lenders = "m0 99;m5 100;m5 101;m999 0;m5 200;";
        due("willing() at 100", Check.on("s1 0 9 0;l50 0 1;" + lenders).willing(), 2 + 4 + 16);
        due("willing() at none", Check.on("s1 0 9 0;l95 0 1;" + lenders).willing(), 0);
        due("willing() at 900", Check.on("s1 0 9 0;l90 0 1;" + lenders).willing(), 0);
        due("willing(), home", Check.on("s1 0 9 0;" + lenders).willing(), 31);
        due("willing(), no lenders", Check.on("s1 0 9 0;").willing(), 0);
    }

    /** On the ship: 0 (due 130), 3 (due 44); on freight: 1 (due 60), 2 (due 50, of 60 there). */
    private static BottomryLoans four() {
        BottomryLoans x = Check.on("s50 60 5 10;l10 1 8;l0 0 5;m150 30;m90 50;m90 10;m99 0;");
        x.borrow(0, 100, false);
        x.borrow(1, 40, true);
        x.borrow(3, 50, true);
        x.borrow(2, 40, false);
        return x;
    }

    private static void paid() {
        BottomryLoans x = four();
        due("paid(2), the last of freight", x.paid(2), 50);
        due("paid(1), what is left of freight", x.paid(1), 10);
        due("paid(3), the last of the ship", x.paid(3), 44);
        due("paid(0), of worth and purse", x.paid(0), 130);
        due("left of 50 and 240", x.told(11), 116);
        x.repair(4);
        x.sail(true);
        x.repair(1);
        due("told(3)", x.told(3), 203);
        due("paid(0), purse less", x.paid(0), 130);
        due("paid(4)", x.paid(4), UNKNOWN);
        due("paid(-1)", x.paid(-1), UNKNOWN);
        due("nothing is taken away: told(1)", x.told(1), 60);
        BottomryLoans poor = Check.on("s1 9 5 0;l0 0 99;m150 200;");
        poor.borrow(0, 100, false);
        poor.repair(1);
        due("paid(0) of worth 1, purse 1, freight 9", poor.paid(0), 11);
        poor.sail(true);
        due("paid(0), home", poor.paid(0), 11);
        due("left", poor.told(11), 0);
    }

    private static void hurt() {
        BottomryLoans x = four();
        // on freight the loan 2 gets 60 - 25 * 150 / 100 = 23, the loan 1 nothing
        due("hurt(1, 25, true)", x.hurt(1, 25, true), 2 + 4);
        due("hurt(1, 1, true), the loan 1 alone", x.hurt(1, 1, true), 2);
        due("hurt(3, 1, false), it brings what it takes", x.hurt(3, 1, false), 0);
        // 116 are left of 290, and the new loan takes 116 more than it brings at 387
        due("hurt(0, 386, false), not more than is left", x.hurt(0, 386, false), 0);
        due("hurt(0, 387, false)", x.hurt(0, 387, false), 0);
        due("hurt(0, 390, false)", x.hurt(0, 390, false), 1);
        due("hurt(0, 999, false)", x.hurt(0, 999, false), 1 + 8);
        due("hurt changes nothing: told(6)", x.told(6), 4);
        due("hurt changes nothing: told(3)", x.told(3), 240);
        due("hurt(4, 0, false)", x.hurt(4, 0, false), UNKNOWN);
        due("hurt(-1, 1, false)", x.hurt(-1, 1, false), UNKNOWN);
        due("hurt(0, 0, false)", x.hurt(0, 0, false), OUTSIDE);
        due("hurt(0, 1000, true)", x.hurt(0, 1000, true), OUTSIDE);
        x.sail(true);
        x.sail(true);
        due("home: hurt(0, 390, false)", x.hurt(0, 390, false), 1);
        x.undo();
        x.sail(false);
        due("lost: hurt(0, 390, false)", x.hurt(0, 390, false), NOT);
        due("lost: hurt(0, 1000, false)", x.hurt(0, 1000, false), OUTSIDE);
        due("no loans: hurt", Check.on("s1 0 0 0;m0 200;").hurt(0, 999, false), 0);
    }

    /** A loan on freight that takes what was left for the ship's, and eight loans already. */
    private static void hurtByTheLastOnly() {
        BottomryLoans x = Check.on("s1 50 5 0;l0 0 99;m999 100;m999 0;m0 200;");
        for (int i = 0; i < 8; i++) {
            x.borrow(0, 20, false);
        }
        x.repair(1);
        // there are 1 + 61 + 50 for eight of 40: the loans 7 and 6 whole, 5 in part
        due("paid(5)", x.paid(5), 32);
        due("hurt(1, 20, true), it brings what it takes", x.hurt(1, 20, true), 0);
        due("hurt(0, 20, true)", x.hurt(0, 20, true), 32);
        due("hurt(2, 20, false), who has not so much", x.hurt(2, 20, false), 32 + 64);
        due("hurt(2, 60, false)", x.hurt(2, 60, false), 32 + 64 + 128);
        due("hurt(0, 1, false), the least", x.hurt(0, 1, false), 32);
        due("hurt(0, 1, true), the least", x.hurt(0, 1, true), 32);
        due("hurt(2, 99, true), more is brought than freight loses", x.hurt(2, 99, true), 0);
    }

    private static void share() {
        BottomryLoans x = four();
        due("share(3, 43)", x.share(3, 43), 43);
        due("share(3, 44)", x.share(3, 44), 44);
        due("share(0, 44)", x.share(0, 44), 0);
        due("share(0, 100)", x.share(0, 100), 56);
        due("share(0, 999)", x.share(0, 999), 130);
        due("share(1, 999), on freight", x.share(1, 999), 0);
        due("share(2, 999), on freight", x.share(2, 999), 0);
        due("share(3, 0)", x.share(3, 0), 0);
        due("share(4, -1)", x.share(4, -1), UNKNOWN);
        due("share(-1, 0)", x.share(-1, 0), UNKNOWN);
        due("share(0, -1)", x.share(0, -1), OUTSIDE);
        due("share(0, 1000)", x.share(0, 1000), OUTSIDE);
        x.sail(false);
        due("lost: share(0, 100)", x.share(0, 100), 56);
    }

    private static void plan() {
        BottomryLoans x = Check.on("s200 60 5 10;l10 1 8;l5 2 12;l20 0 5;m150 30;m90 50;m40 10;");
        due("plan(-1)", x.plan(-1), 158646);
        due("plan(0)", x.plan(0), 1);
        due("plan(1)", x.plan(1), 0);
        due("plan(2)", x.plan(2), 0);
        due("plan(3)", x.plan(3), NONE);
        due("plan(-2)", x.plan(-2), NONE);
        due("plan(MIN)", x.plan(Integer.MIN_VALUE), NONE);
        due("plan(MAX)", x.plan(Integer.MAX_VALUE), NONE);
        due("home: plan(-1)", Check.on("s999 999 0 999;").plan(-1), 2997000);
        due("home: plan(0)", Check.on("s999 999 0 999;").plan(0), NONE);
        // a sure ship needs nothing
        BottomryLoans sure = Check.on("s1 0 0 9;l0 0 1;");
        due("sure: plan(-1)", sure.plan(-1), 10000);
        due("sure: plan(0)", sure.plan(0), 0);
        // 9 at most: from 8 one point, then each port one
        BottomryLoans worn = Check.on("s999 0 8 99;l0 9 1;l0 9 1;");
        due("worn: plan(-1)", worn.plan(-1), 1096000);
        due("worn: plan(0)", worn.plan(0), 1);
        due("worn: plan(1)", worn.plan(1), 1);
        // of the purse alone: 2 points would cost 2, there is 1
        BottomryLoans poor = Check.on("s999 0 0 1;l0 9 1;");
        due("poor: plan(-1)", poor.plan(-1), 279720);
        due("poor: plan(0)", poor.plan(0), 1);
        // 2 points a port at most
        BottomryLoans rich = Check.on("s999 0 0 99;l0 9 1;");
        due("rich: plan(-1)", rich.plan(-1), 405520);
        due("rich: plan(0)", rich.plan(0), 2);
        // STATE is 0 at least behind the first leg
        BottomryLoans rotten = Check.on("s999 0 0 0;l0 0 1;l0 9 1;");
        due("rotten: plan(-1)", rotten.plan(-1), 189810);
        planOfNothingLeft();
    }

    private static void planOfNothingLeft() {
        BottomryLoans x = Check.on("s9 0 5 3;l50 1 1;l50 1 1;m99 200;");
        x.borrow(0, 6, false);
        due("nothing left: told(11)", x.told(11), 0);
        due("nothing left: plan(-1)", x.plan(-1), 0);
        due("nothing left: plan(0)", x.plan(0), 0);
        due("nothing left: plan(1)", x.plan(1), 0);
        x.borrow(0, 99 - 6, false);
        due("less than nothing: plan(-1)", x.plan(-1), 0);
        due("less than nothing: plan(1)", x.plan(1), 0);
    }

    private static void planOfLikeOnesTheFirst() {
        // both ports repair by 1, and either one does the same for what is behind
        BottomryLoans x = Check.on("s999 0 7 0;l99 9 1;l50 0 1;");
        due("no chance: plan(-1)", x.plan(-1), 0);
        due("no chance: plan(0)", x.plan(0), 0);
        due("no chance: plan(1)", x.plan(1), 0);
        // a point in port 0 or in port 1 alike helps leg 1 alone: the later is first, port 0 having fewer
        BottomryLoans y = Check.on("s999 0 5 2;l0 0 1;l0 9 1;");
        due("either port: plan(0)", y.plan(0), 0);
        due("either port: plan(1)", y.plan(1), 2);
        // cut to thousandths two ways are alike that are not so uncut: nothing repaired is first
        BottomryLoans z = Check.on("s1 0 8 1;l98 1 1;");
        // 0 points: 10000 * 2 / 1000 = 20, 1 point: 20000 * 1 / 1000 = 20
        due("alike: plan(-1)", z.plan(-1), 20);
        due("alike: plan(0)", z.plan(0), 0);
        // 0 points: 50 * 101 = 5050, 1 point: 51 * 100 = 5100
        BottomryLoans w = Check.on("s100 0 8 1;l99 0 1;l99 0 1;l47 1 1;");
        due("cut alike: plan(-1)", w.plan(-1), 5);
        due("cut alike: plan(0)", w.plan(0), 0);
        due("cut alike: plan(1)", w.plan(1), 0);
        due("cut alike: plan(2)", w.plan(2), 0);
    }

    /** A plan holds only until something is done. */
    private static void planKeepsUp() {
        BottomryLoans x = Check.on("s200 60 5 10;l10 1 8;l5 2 12;l20 0 5;m150 30;");
        due("plan(-1)", x.plan(-1), 158646);
        x.keep(0);
        x.borrow(0, 90, false);
        due("plan(-1), borrowed", x.plan(-1), 142297);
        x.undo();
        due("plan(-1), undone", x.plan(-1), 158646);
        x.repair(1);
        int repaired = x.plan(-1);
        due("plan(0), repaired", x.plan(0), 0);
        due("plan(-1), repaired", repaired, 158646);
        x.sail(true);
        due("plan(2), sailed", x.plan(2), NONE);
        x.goBack(0);
        due("plan(2), gone back", x.plan(2), 0);
        due("plan(0), gone back", x.plan(0), 1);
        x.seed(0);
        x.drift(1);
        due("plan(2), drifted", x.plan(2), x.told(9) == 2 ? NOT : NONE);
        Check.feed(x, "s7 0 0 0;");
        x.voyage();
        due("plan(-1), another voyage", x.plan(-1), 7000);
        Check.feed(x, "s8 0 0 0;l50 0 1;");
        x.voyage();
        due("plan(-1), one more voyage", x.plan(-1), 4000);
        due("plan(0), one more voyage", x.plan(0), 0);
    }

    private static void belief() {
        BottomryLoans x = Check.on("s200 60 5 99;l10 1 8;l5 2 12;l20 0 5;");
        due("belief(7, 0), none sailed", x.belief(7, 0), 1000000);
        x.sail(true);
        x.sail(true);
        due("belief(0, 0)", x.belief(0, 0), 1000000);
        due("belief(1, 5)", x.belief(1, 5), 870000);
        due("belief(2, 9)", x.belief(2, 9), 837000);
        due("belief(3, 9), fewer sailed", x.belief(3, 9), 837000);
        due("belief(7, 9), fewer sailed", x.belief(7, 9), 837000);
        // odds by 0: 19, 23
        due("belief(2, 0), 0 at least", x.belief(2, 0), 623700);
        due("belief(-1, 0)", x.belief(-1, 0), OUTSIDE);
        due("belief(8, 0)", x.belief(8, 0), OUTSIDE);
        due("belief(0, -1)", x.belief(0, -1), OUTSIDE);
        due("belief(0, 10)", x.belief(0, 10), OUTSIDE);
        x.sail(false);
        due("lost: belief(2, 9), of the legs sailed", x.belief(2, 9), 837000);
        due("no ship: belief(7, 9)", new BottomryLoans().belief(7, 9), 1000000);
        due("no ship: belief(8, 9)", new BottomryLoans().belief(8, 9), OUTSIDE);
    }

    private static void need() {
        BottomryLoans x = Check.on("s200 60 5 10;l10 1 8;l5 2 99;m20 30;m15 20;m22 30;m14 20;m15 20;");
        due("need(5, 0)", x.need(5, 0), 0);
        due("need(0, 0)", x.need(0, 0), 0);
        due("need(6, 0), the purse is enough", x.need(6, 0), 0);
        due("need(7, 0)", x.need(7, 0), 6);
        due("need(9, 0)", x.need(9, 0), 22);
        due("need(9, 1), one alone has it", x.need(9, 1), 2);
        due("need(8, 0)", x.need(8, 0), 14);
        due("need(8, 1), the first of like ones", x.need(8, 1), 1);
        due("need(0, 1), for 0", x.need(0, 1), 1);
        BottomryLoans bare = Check.on("s200 60 5 0;l10 1 8;");
        due("bare: need(5, 0)", bare.need(5, 0), 0);
        due("bare: need(4, 0)", bare.need(4, 0), 0);
        due("bare: need(6, 0)", bare.need(6, 0), 8);
        due("need(-1, 0)", x.need(-1, 0), OUTSIDE);
        due("need(10, 0)", x.need(10, 0), OUTSIDE);
        due("need(9, -1)", x.need(9, -1), OUTSIDE);
        due("need(9, 2)", x.need(9, 2), OUTSIDE);
        x.borrow(1, 2, false);
        due("need(8, 0), purse 12", x.need(8, 0), 12);
        due("need(8, 1), lender 1 has 13", x.need(8, 1), 1);
        due("need(9, 1), 20 of the dear one", x.need(9, 1), 0);
        x.borrow(2, 20, true);
        due("need(9, 1), nothing", x.need(9, 0), 0);
        x.sail(true);
        due("need(9, 1), in the next port", x.need(9, 0), 5 * 99 - 32);
        due("need(9, 1), nobody", x.need(9, 1), NONE);
        x.sail(true);
        due("home: need(9, 1)", x.need(9, 1), NOT);
        due("home: need(10, 1)", x.need(10, 1), OUTSIDE);
        due("no lenders: need(0, 1)", Check.on("s1 0 5 0;l0 0 1;").need(0, 1), NONE);
    }

    private static void refusedWhenLostOrNone() {
        BottomryLoans none = new BottomryLoans();
        BottomryLoans lost = Check.on("s200 60 5 10;l10 1 8;m150 30;");
        lost.borrow(0, 1, false);
        lost.sail(false);
        for (BottomryLoans x : new BottomryLoans[] {none, lost}) {
            due("not: comesHome()", x.comesHome(), NOT);
            due("not: rate()", x.rate(), NOT);
            due("not: willing()", x.willing(), NOT);
            due("not: plan(-1)", x.plan(-1), NOT);
            due("not: plan(-2)", x.plan(-2), NOT);
            due("not: plan(0)", x.plan(0), NOT);
            due("not: need(9, 0)", x.need(9, 0), NOT);
            due("not: paid(0)", x.paid(0), x == lost ? NOT : UNKNOWN);
            due("not: hurt(0, 1, false)", x.hurt(0, 1, false), x == lost ? NOT : UNKNOWN);
            due("not: share(0, 1)", x.share(0, 1), x == lost ? 1 : UNKNOWN);
        }
    }
}
