import java.util.Random;

/** Runs of calls, of all promises mixed, against the reference; the same ones each time. */
public final class ReferenceTest {
    private static final int RUNS = 6000;
    /** An object is used for 512 calls; a step makes three at most. */
    private static final int CALLS = 509;
    private static final int[] ODD = {Integer.MIN_VALUE, -1000000001, -2, -1, 0, 1, 8, 10, 999, 1000, 9999, 10000,
        Integer.MAX_VALUE};

    private final Random random;
    private final BottomryLoans x = new BottomryLoans();
    private final Reference r = new Reference();
    private final StringBuilder log = new StringBuilder();
    private int calls = 0;

    private ReferenceTest(int run) {
        random = new Random(run);
    }

    public static void main(String[] args) {
        long all = 0;
        for (int run = 0; run < RUNS; run++) {
            ReferenceTest test = new ReferenceTest(run);
            if (!test.runAll()) {
                System.out.println("run " + run + ":" + test.log);
                System.exit(1);
            }
            all += test.calls;
        }
        System.out.println("ReferenceTest: " + all + " calls answered alike");
    }

    private int some(int n) {
        return random.nextInt(n);
    }

    /** Mostly within the bounds, now and then far out of them. */
    private int number(int least, int most) {
        int dice = some(20);
        if (dice == 0) {
            return ODD[some(ODD.length)];
        }
        if (dice == 1) {
            return some(2) == 0 ? least - 1 : most + 1;
        }
        if (dice == 2) {
            return some(2) == 0 ? least : most;
        }
        return least + some(most - least + 1);
    }

    private boolean same(String call, int got, int want) {
        calls++;
        log.append('\n').append(call).append(" -> ").append(got);
        if (got != want) {
            log.append(", the reference: ").append(want);
        }
        return got == want;
    }

    private boolean runAll() {
        boolean alike = true;
        if (some(30) != 0) {
            alike = read();
        }
        while (alike && calls < CALLS) {
            alike = one();
        }
        return alike;
    }

    private boolean read() {
        String text = text();
        boolean alike = true;
        for (int i = 0; i < text.length() && alike && calls < CALLS; i++) {
            alike = same("feed(" + (int) text.charAt(i) + ")", x.feed(text.charAt(i)), r.feed(text.charAt(i)));
        }
        return alike && same("voyage()", x.voyage(), r.voyage()) && same("fault()", x.fault(), r.fault());
    }

    private String text() {
        StringBuilder text = new StringBuilder();
        boolean rich = some(2) == 0;
        text.append('s').append(1 + some(rich ? 999 : 60)).append(' ').append(some(rich ? 1000 : 60)).append(' ');
        text.append(some(10)).append(' ').append(some(rich ? 1000 : 40)).append(';');
        int calm = 1 + some(100);
        for (int l = some(8); l > 0; l--) {
            text.append('l').append(some(calm)).append(' ').append(some(10)).append(' ');
            text.append(1 + some(some(2) == 0 ? 99 : 6)).append(';');
        }
        for (int m = some(6); m > 0; m--) {
            text.append('m').append(some(rich ? 1000 : 80)).append(' ').append(some(201)).append(';');
        }
        if (some(5) == 0) {
            spoil(text);
        }
        return text.toString();
    }

    private void spoil(StringBuilder text) {
        String signs = "slm;0123456789 0 9 x\0\u00ff";
        for (int n = 1 + some(3); n > 0; n--) {
            int at = some(text.length());
            switch (some(4)) {
                case 0: text.deleteCharAt(at); break;
                case 1: text.setCharAt(at, signs.charAt(some(signs.length()))); break;
                case 2: text.insert(at, signs.charAt(some(signs.length()))); break;
                default: text.insert(at, text.substring(at, Math.min(text.length(), at + some(30)))); break;
            }
            if (text.length() == 0) {
                return;
            }
        }
    }

    private boolean one() {
        // a lost ship refuses most, so she is seldom left so for long
        if (r.told(9) == 2 && r.told(14) > 0 && some(6) == 0) {
            return same("undo()", x.undo(), r.undo());
        }
        switch (some(40)) {
            case 0: case 1: case 2: case 3: case 4: return borrow();
            case 5: case 6: return repair();
            case 7: return sail();
            case 8: return some(3) != 0 || drift();
            case 9: return same("undo()", x.undo(), r.undo());
            case 10: return some(4) != 0 || images();
            case 11: case 12: case 13: return tell();
            case 14: return some(4) != 0 || same("tear()", x.tear(), r.tear());
            case 15: return write();
            case 16: return some(40) != 0 || read();
            case 17: return some(10) != 0 || feed();
            case 18: case 19: case 20: return hurt();
            case 21: case 22: return plan();
            default: return look();
        }
    }

    private boolean borrow() {
        int m = number(0, 4);
        int most = r.lender(m, 2);
        int v = some(3) == 0 ? number(1, 999) : number(1, Math.max(1, Math.min(999, some(2) == 0 ? most : 40)));
        boolean onFreight = some(3) == 0;
        return same("borrow(" + m + ", " + v + ", " + onFreight + ")", x.borrow(m, v, onFreight),
            r.borrow(m, v, onFreight));
    }

    private boolean repair() {
        int k = some(2) == 0 ? 1 + some(2) : number(1, 9);
        return same("repair(" + k + ")", x.repair(k), r.repair(k));
    }

    private boolean sail() {
        boolean comes = some(6) != 0;
        return same("sail(" + comes + ")", x.sail(comes), r.sail(comes));
    }

    private boolean drift() {
        int n = some(2) == 0 ? 1 : number(1, 7);
        return same("drift(" + n + ")", x.drift(n), r.drift(n));
    }

    private boolean images() {
        int i = number(0, 1);
        return some(2) == 0 ? same("keep(" + i + ")", x.keep(i), r.keep(i))
            : same("goBack(" + i + ")", x.goBack(i), r.goBack(i));
    }

    private boolean tell() {
        int i = number(0, 7);
        int v = number(0, 9999);
        if (some(3) != 0) {
            int paid = r.paid(i);
            v = paid < 0 ? v : some(3) == 0 ? r.loan(i, 3) : paid;
        }
        return same("tell(" + i + ", " + v + ")", x.tell(i, v), r.tell(i, v)) && worth();
    }

    private boolean worth() {
        int what = number(0, 2);
        return same("worth(" + what + ")", x.worth(what), r.worth(what));
    }

    private boolean write() {
        int v = some(3) == 0 ? number(0, 9999) : r.told(3);
        return same("write(" + v + ")", x.write(v), r.write(v));
    }

    private boolean feed() {
        int letter = number(0, 255);
        return same("feed(" + letter + ")", x.feed(letter), r.feed(letter));
    }

    private boolean hurt() {
        int m = number(0, 4);
        int v = number(1, some(2) == 0 ? 999 : 50);
        boolean onFreight = some(2) == 0;
        return same("hurt(" + m + ", " + v + ", " + onFreight + ")", x.hurt(m, v, onFreight),
            r.hurt(m, v, onFreight));
    }

    private boolean plan() {
        int i = number(-1, 6);
        return same("plan(" + i + ")", x.plan(i), r.plan(i));
    }

    private boolean look() {
        int i = number(0, 7);
        int what = number(0, 5);
        switch (some(14)) {
            case 0: return same("leg(" + i + ", " + what + ")", x.leg(i, what), r.leg(i, what));
            case 1: return same("lender(" + i + ", " + what + ")", x.lender(i, what), r.lender(i, what));
            case 2: return same("loan(" + i + ", " + what + ")", x.loan(i, what), r.loan(i, what));
            case 3: return same("comesHome()", x.comesHome(), r.comesHome());
            case 4: return same("rate()", x.rate(), r.rate());
            case 5: return same("willing()", x.willing(), r.willing());
            case 6: return same("paid(" + i + ")", x.paid(i), r.paid(i));
            case 7: return share(i);
            case 8: return belief();
            case 9: return need();
            case 10: return worth();
            case 11: return same("judge()", x.judge(), r.judge());
            case 12: return seed();
            default: return told();
        }
    }

    private boolean told() {
        int what = number(0, 14);
        return same("told(" + what + ")", x.told(what), r.told(what));
    }

    private boolean share(int i) {
        int v = number(0, some(2) == 0 ? 999 : 60);
        return same("share(" + i + ", " + v + ")", x.share(i, v), r.share(i, v));
    }

    private boolean belief() {
        int ago = number(0, 7);
        int state = number(0, 9);
        return same("belief(" + ago + ", " + state + ")", x.belief(ago, state), r.belief(ago, state));
    }

    private boolean need() {
        int t = number(0, 9);
        int what = number(0, 1);
        return same("need(" + t + ", " + what + ")", x.need(t, what), r.need(t, what));
    }

    private boolean seed() {
        int v = some(2) == 0 ? random.nextInt() : number(0, Integer.MAX_VALUE - 1);
        return same("seed(" + v + ")", x.seed(v), r.seed(v));
    }
}
