import java.util.List;
import java.util.function.Supplier;
import java.util.function.ToIntFunction;

/**
 * The refusals: of several the first, and what is refused changes nothing; nothing changes either by what is tried or
 * looked at. Two objects are brought to be alike, one is called once more, and then both are asked everything.
 */
public final class RefusedTest {
    private static final Check CHECK = new Check("RefusedTest");
    private static final int UNKNOWN = BottomryLoans.UNKNOWN;
    private static final int OUTSIDE = BottomryLoans.OUTSIDE;
    private static final int NOT = BottomryLoans.NOT;
    private static final int FULL = BottomryLoans.FULL;
    private static final String TEXT = "s200 60 5 40;l10 1 8;l5 2 12;m50 30;m20 50;m9 0;";

    public static void main(String[] args) {
        onlyUnknown();
        onlyOutside();
        onlyNot();
        onlyFull();
        unknownFirst();
        outsideFirst();
        notFirst();
        triedChangesNothing();
        looksChangeNothing();
        CHECK.finish();
    }

    /** In the second port, with two loans, three acts that can be undone, an image, things told, a text begun. */
    private static BottomryLoans port() {
        BottomryLoans x = Check.on(TEXT);
        x.seed(5);
        x.borrow(1, 7, true);
        x.keep(0);
        x.seed(11);
        x.repair(2);
        x.borrow(0, 30, false);
        x.sail(true);
        x.tell(0, 10);
        x.tell(1, 39);
        x.write(61);
        x.write(60);
        Check.feed(x, "s1 2 3 4;l5");
        return x;
    }

    /** With one less in the purse than a point costs. */
    private static BottomryLoans poor() {
        BottomryLoans x = Check.on("s200 60 5 7;l10 1 8;m50 30;");
        x.repair(1);
        x.keep(1);
        return x;
    }

    private static BottomryLoans home() {
        BottomryLoans x = port();
        x.sail(true);
        return x;
    }

    private static BottomryLoans lost() {
        BottomryLoans x = port();
        x.sail(false);
        return x;
    }

    /** Eight loans, six told, fifteen entries. */
    private static BottomryLoans full() {
        BottomryLoans x = port();
        while (x.told(6) < 8) {
            x.borrow(2, 1, x.told(6) % 2 == 0);
        }
        while (x.told(12) < 6) {
            x.tell(2, 1);
        }
        while (x.told(13) < 15) {
            x.write(61);
        }
        return x;
    }

    private static BottomryLoans fullHome() {
        BottomryLoans x = full();
        x.sail(true);
        return x;
    }

    /** A text of 220 letters. */
    private static BottomryLoans fullText() {
        BottomryLoans x = port();
        for (int n = x.told(7); n < 220; n++) {
            x.feed(' ');
        }
        return x;
    }

    private static BottomryLoans none() {
        BottomryLoans x = new BottomryLoans();
        x.seed(9);
        x.keep(1);
        x.write(4);
        x.feed('s');
        return x;
    }

    private static void refused(String name, int want, Supplier<BottomryLoans> scene, ToIntFunction<BottomryLoans> call) {
        BottomryLoans x = scene.get();
        CHECK.due(name, call.applyAsInt(x), want);
        CHECK.alike(name + " changes nothing", story(x), story(scene.get()));
    }

    private static void unchanged(String name, Supplier<BottomryLoans> scene, ToIntFunction<BottomryLoans> call) {
        BottomryLoans x = scene.get();
        int first = call.applyAsInt(x);
        CHECK.due(name + " once more", call.applyAsInt(x), first);
        CHECK.alike(name + " changes nothing", story(x), story(scene.get()));
    }

    /** All that an object answers, now and behind all that can be undone, gone back to and read. */
    private static String story(BottomryLoans x) {
        StringBuilder story = new StringBuilder();
        tellAll(x, story);
        while (x.told(14) > 0) {
            story.append("|undo ").append(x.undo());
            tellShort(x, story);
        }
        for (int i = 0; i < 2; i++) {
            story.append("|back ").append(x.goBack(i)).append(" seed ").append(x.seed(3));
            tellShort(x, story);
        }
        story.append("|voyage ").append(x.voyage()).append(' ').append(x.fault());
        tellShort(x, story);
        return story.toString();
    }

    private static void tellAll(BottomryLoans x, StringBuilder story) {
        for (int what = 0; what <= 14; what++) {
            story.append(' ').append(x.told(what));
        }
        story.append("|fault ").append(x.fault());
        for (int l = 0; l < x.told(4); l++) {
            story.append("|leg");
            for (int what = 0; what <= 3; what++) {
                story.append(' ').append(x.leg(l, what));
            }
        }
        for (int i = 0; i < x.told(6); i++) {
            story.append("|loan");
            for (int what = 0; what <= 5; what++) {
                story.append(' ').append(x.loan(i, what));
            }
        }
        story.append("|tried ").append(x.comesHome()).append(' ').append(x.willing()).append(' ').append(x.worth(1));
        for (int i = -1; i < 2; i++) {
            story.append(' ').append(x.plan(i));
        }
        story.append("|judge ").append(x.judge());
        int seed = x.seed(0);
        x.seed(seed);
        story.append("|seed ").append(seed);
    }

    private static void tellShort(BottomryLoans x, StringBuilder story) {
        for (int what : new int[] {0, 2, 3, 6, 8, 9, 10, 12, 13}) {
            story.append(' ').append(x.told(what));
        }
    }

    private static void onlyUnknown() {
        CHECK.sentence("UNKNOWN (a LEG, LENDER, LOAN, IMAGE that there is not; bits of such)");
        refused("leg(2, 0)", UNKNOWN, RefusedTest::port, x -> x.leg(2, 0));
        refused("leg(-1, 3)", UNKNOWN, RefusedTest::port, x -> x.leg(-1, 3));
        refused("lender(3, 0)", UNKNOWN, RefusedTest::port, x -> x.lender(3, 0));
        refused("loan(2, 0)", UNKNOWN, RefusedTest::port, x -> x.loan(2, 0));
        refused("borrow(3, 1, false)", UNKNOWN, RefusedTest::port, x -> x.borrow(3, 1, false));
        refused("borrow(-1, 1, true)", UNKNOWN, RefusedTest::port, x -> x.borrow(-1, 1, true));
        refused("paid(2)", UNKNOWN, RefusedTest::port, x -> x.paid(2));
        refused("hurt(3, 1, false)", UNKNOWN, RefusedTest::port, x -> x.hurt(3, 1, false));
        refused("share(2, 1)", UNKNOWN, RefusedTest::port, x -> x.share(2, 1));
        refused("tell(2, 1)", UNKNOWN, RefusedTest::port, x -> x.tell(2, 1));
        refused("tell(-1, 1)", UNKNOWN, RefusedTest::port, x -> x.tell(-1, 1));
        refused("keep(2)", UNKNOWN, RefusedTest::port, x -> x.keep(2));
        refused("keep(-1)", UNKNOWN, RefusedTest::port, x -> x.keep(-1));
        refused("goBack(2)", UNKNOWN, RefusedTest::port, x -> x.goBack(2));
    }

    private static void onlyOutside() {
        CHECK.sentence("OUTSIDE (another number out of its bounds)");
        refused("feed(256)", OUTSIDE, RefusedTest::port, x -> x.feed(256));
        refused("feed(-1)", OUTSIDE, RefusedTest::port, x -> x.feed(-1));
        refused("told(15)", OUTSIDE, RefusedTest::port, x -> x.told(15));
        refused("told(-1)", OUTSIDE, RefusedTest::port, x -> x.told(-1));
        refused("leg(0, 4)", OUTSIDE, RefusedTest::port, x -> x.leg(0, 4));
        refused("lender(0, 3)", OUTSIDE, RefusedTest::port, x -> x.lender(0, 3));
        refused("loan(0, 6)", OUTSIDE, RefusedTest::port, x -> x.loan(0, 6));
        refused("borrow(0, 0, false)", OUTSIDE, RefusedTest::port, x -> x.borrow(0, 0, false));
        refused("borrow(0, -1, false)", OUTSIDE, RefusedTest::port, x -> x.borrow(0, -1, false));
        refused("repair(0)", OUTSIDE, RefusedTest::port, x -> x.repair(0));
        refused("repair(-1)", OUTSIDE, RefusedTest::port, x -> x.repair(-1));
        refused("drift(0)", OUTSIDE, RefusedTest::port, x -> x.drift(0));
        refused("drift(8)", OUTSIDE, RefusedTest::port, x -> x.drift(8));
        refused("hurt(0, 1000, true)", OUTSIDE, RefusedTest::port, x -> x.hurt(0, 1000, true));
        refused("share(0, 1000)", OUTSIDE, RefusedTest::port, x -> x.share(0, 1000));
        refused("belief(8, 0)", OUTSIDE, RefusedTest::port, x -> x.belief(8, 0));
        refused("belief(0, 10)", OUTSIDE, RefusedTest::port, x -> x.belief(0, 10));
        refused("need(10, 0)", OUTSIDE, RefusedTest::port, x -> x.need(10, 0));
        refused("need(9, 2)", OUTSIDE, RefusedTest::port, x -> x.need(9, 2));
        refused("tell(0, 10000)", OUTSIDE, RefusedTest::port, x -> x.tell(0, 10000));
        refused("worth(3)", OUTSIDE, RefusedTest::port, x -> x.worth(3));
        refused("write(10000)", OUTSIDE, RefusedTest::port, x -> x.write(10000));
        refused("write(-1)", OUTSIDE, RefusedTest::port, x -> x.write(-1));
        refused("seed(-1)", OUTSIDE, RefusedTest::port, x -> x.seed(-1));
    }

    private static void onlyNot() {
        CHECK.sentence("NOT (not now, as told)");
        refused("borrow(0, 21, false), he has 20", NOT, RefusedTest::port, x -> x.borrow(0, 21, false));
        refused("repair(4), above 9", NOT, RefusedTest::port, x -> x.repair(4));
        refused("repair(1), the purse is less", NOT, RefusedTest::poor, x -> x.repair(1));
        refused("goBack(1), not kept", NOT, RefusedTest::port, x -> x.goBack(1));
        for (Supplier<BottomryLoans> scene : scenesOutOfPort()) {
            refused("repair(1), no port", NOT, scene, x -> x.repair(1));
            refused("sail(true), no port", NOT, scene, x -> x.sail(true));
            refused("sail(false), no port", NOT, scene, x -> x.sail(false));
            refused("drift(1), no port", NOT, scene, x -> x.drift(1));
            refused("need(9, 0), no port", NOT, scene, x -> x.need(9, 0));
        }
        refused("HOME: borrow(0, 1, false)", NOT, RefusedTest::home, x -> x.borrow(0, 1, false));
        refused("LOST: borrow(0, 1, false)", NOT, RefusedTest::lost, x -> x.borrow(0, 1, false));
        refused("LOST: comesHome()", NOT, RefusedTest::lost, BottomryLoans::comesHome);
        refused("LOST: rate()", NOT, RefusedTest::lost, BottomryLoans::rate);
        refused("LOST: willing()", NOT, RefusedTest::lost, BottomryLoans::willing);
        refused("LOST: paid(0)", NOT, RefusedTest::lost, x -> x.paid(0));
        refused("LOST: hurt(0, 1, true)", NOT, RefusedTest::lost, x -> x.hurt(0, 1, true));
        refused("LOST: plan(-1)", NOT, RefusedTest::lost, x -> x.plan(-1));
        refused("LOST: worth(0)", NOT, RefusedTest::lost, x -> x.worth(0));
        refused("none: undo()", NOT, RefusedTest::none, BottomryLoans::undo);
        refused("none: plan(-1)", NOT, RefusedTest::none, x -> x.plan(-1));
        refused("none: goBack(0)", NOT, RefusedTest::none, x -> x.goBack(0));
    }

    private static List<Supplier<BottomryLoans>> scenesOutOfPort() {
        return List.of(RefusedTest::home, RefusedTest::lost, RefusedTest::none);
    }

    private static void onlyFull() {
        CHECK.sentence("What is refused changes nothing.");
        refused("feed(32), full", FULL, RefusedTest::fullText, x -> x.feed(' '));
        refused("borrow(0, 1, false), full", FULL, RefusedTest::full, x -> x.borrow(0, 1, false));
        refused("borrow(0, 1, true), full", FULL, RefusedTest::full, x -> x.borrow(0, 1, true));
        refused("tell(7, 1), full", FULL, RefusedTest::full, x -> x.tell(7, 1));
        refused("write(1), full", FULL, RefusedTest::full, x -> x.write(1));
    }

    private static void unknownFirst() {
        CHECK.sentence("REFUSALS, of several the first in this order: UNKNOWN");
        refused("leg(2, 4)", UNKNOWN, RefusedTest::port, x -> x.leg(2, 4));
        refused("lender(3, 3)", UNKNOWN, RefusedTest::port, x -> x.lender(3, 3));
        refused("loan(2, 6)", UNKNOWN, RefusedTest::port, x -> x.loan(2, 6));
        refused("borrow(3, 0, false)", UNKNOWN, RefusedTest::port, x -> x.borrow(3, 0, false));
        refused("HOME: borrow(3, 1, false)", UNKNOWN, RefusedTest::home, x -> x.borrow(3, 1, false));
        refused("LOST: borrow(3, 1000, false)", UNKNOWN, RefusedTest::lost, x -> x.borrow(3, 1000, false));
        refused("full: borrow(3, 1, false)", UNKNOWN, RefusedTest::full, x -> x.borrow(3, 1, false));
        refused("LOST: paid(2)", UNKNOWN, RefusedTest::lost, x -> x.paid(2));
        refused("none: paid(0)", UNKNOWN, RefusedTest::none, x -> x.paid(0));
        refused("hurt(3, 0, false)", UNKNOWN, RefusedTest::port, x -> x.hurt(3, 0, false));
        refused("LOST: hurt(3, 1, false)", UNKNOWN, RefusedTest::lost, x -> x.hurt(3, 1, false));
        refused("none: hurt(0, 1, false)", UNKNOWN, RefusedTest::none, x -> x.hurt(0, 1, false));
        refused("share(2, -1)", UNKNOWN, RefusedTest::port, x -> x.share(2, -1));
        refused("tell(2, -1)", UNKNOWN, RefusedTest::port, x -> x.tell(2, -1));
        refused("full: tell(8, 1)", UNKNOWN, RefusedTest::full, x -> x.tell(8, 1));
        refused("none: goBack(2)", UNKNOWN, RefusedTest::none, x -> x.goBack(2));
    }

    private static void outsideFirst() {
        CHECK.sentence("OUTSIDE (another number out of its bounds), NOT (not now, as told), FULL.");
        refused("full: feed(256)", OUTSIDE, RefusedTest::fullText, x -> x.feed(256));
        refused("HOME: borrow(0, 0, false)", OUTSIDE, RefusedTest::home, x -> x.borrow(0, 0, false));
        refused("he has not: borrow(0, 1000, false)", OUTSIDE, RefusedTest::port, x -> x.borrow(0, 1000, false));
        refused("full: borrow(0, 0, false)", OUTSIDE, RefusedTest::full, x -> x.borrow(0, 0, false));
        refused("above 9: repair(10)", OUTSIDE, RefusedTest::port, x -> x.repair(10));
        refused("HOME: repair(0)", OUTSIDE, RefusedTest::home, x -> x.repair(0));
        refused("LOST: drift(8)", OUTSIDE, RefusedTest::lost, x -> x.drift(8));
        refused("none: drift(0)", OUTSIDE, RefusedTest::none, x -> x.drift(0));
        refused("LOST: hurt(0, 0, false)", OUTSIDE, RefusedTest::lost, x -> x.hurt(0, 0, false));
        refused("HOME: need(10, 0)", OUTSIDE, RefusedTest::home, x -> x.need(10, 0));
        refused("LOST: need(0, -1)", OUTSIDE, RefusedTest::lost, x -> x.need(0, -1));
        refused("full: tell(0, -1)", OUTSIDE, RefusedTest::full, x -> x.tell(0, -1));
        refused("LOST: worth(-1)", OUTSIDE, RefusedTest::lost, x -> x.worth(-1));
        refused("none: worth(3)", OUTSIDE, RefusedTest::none, x -> x.worth(3));
        refused("full: write(-1)", OUTSIDE, RefusedTest::full, x -> x.write(-1));
    }

    private static void notFirst() {
        CHECK.sentence("NOT (not now, as told), FULL.");
        refused("full, he has not so much: borrow(2, 9, false)", NOT, RefusedTest::full, x -> x.borrow(2, 9, false));
        refused("full, HOME: borrow(0, 1, false)", NOT, RefusedTest::fullHome, x -> x.borrow(0, 1, false));
    }

    private static void triedChangesNothing() {
        CHECK.sentence("TRIED from now; nothing changes by it.");
        for (Supplier<BottomryLoans> scene : scenes()) {
            unchanged("comesHome()", scene, BottomryLoans::comesHome);
            unchanged("rate()", scene, BottomryLoans::rate);
            unchanged("willing()", scene, BottomryLoans::willing);
            unchanged("paid(1)", scene, x -> x.paid(1));
            unchanged("hurt(2, 999, true)", scene, x -> x.hurt(2, 999, true));
            unchanged("hurt(1, 1, false)", scene, x -> x.hurt(1, 1, false));
            unchanged("share(1, 20)", scene, x -> x.share(1, 20));
            unchanged("plan(-1)", scene, x -> x.plan(-1));
            unchanged("plan(0)", scene, x -> x.plan(0));
            unchanged("belief(1, 4)", scene, x -> x.belief(1, 4));
            unchanged("need(9, 0)", scene, x -> x.need(9, 0));
            unchanged("need(9, 1)", scene, x -> x.need(9, 1));
            unchanged("worth(0)", scene, x -> x.worth(0));
            unchanged("judge()", scene, BottomryLoans::judge);
        }
    }

    private static void looksChangeNothing() {
        CHECK.sentence("(Nothing is taken away by it: it is as it would be.)");
        for (Supplier<BottomryLoans> scene : scenes()) {
            unchanged("fault()", scene, BottomryLoans::fault);
            unchanged("told(11)", scene, x -> x.told(11));
            unchanged("told(10)", scene, x -> x.told(10));
            unchanged("told(9)", scene, x -> x.told(9));
            unchanged("leg(1, 3)", scene, x -> x.leg(1, 3));
            unchanged("lender(1, 2)", scene, x -> x.lender(1, 2));
            unchanged("loan(1, 5)", scene, x -> x.loan(1, 5));
        }
    }

    private static List<Supplier<BottomryLoans>> scenes() {
        return List.of(RefusedTest::home, RefusedTest::lost, RefusedTest::none, RefusedTest::port, RefusedTest::full);
    }
}
