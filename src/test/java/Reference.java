import java.math.BigInteger;
import java.util.ArrayList;
import java.util.List;

/**
 * The document once more, for comparison: as slowly and literally as it can be told. What is paid is paid one by one
 * in order, WORTH and RATE are tried one by one, PLAN tries every way, UNDO keeps whole copies.
 */
final class Reference {
    private static final int UNKNOWN = BottomryLoans.UNKNOWN, OUTSIDE = BottomryLoans.OUTSIDE;
    private static final int NOT = BottomryLoans.NOT, FULL = BottomryLoans.FULL, NONE = BottomryLoans.NONE;

    private record Loan(int lender, int amount, boolean onFreight, int due, int taken) {
    }

    private record Snapshot(int state, int purse, int sailed, boolean lost, List<Loan> loans) {
    }

    private String text = "";
    private boolean hasShip = false;
    private int w = 0;
    private int f = 0;
    private List<int[]> legs = new ArrayList<>();
    private List<int[]> lenders = new ArrayList<>();
    private int faultPlace = NONE;

    private Snapshot she = new Snapshot(0, 0, 0, false, List.of());
    private final List<Snapshot> past = new ArrayList<>();
    private final Snapshot[] images = new Snapshot[2];
    private final int[] imageSeeds = new int[2];
    private int seed = 0;
    private final List<int[]> toldPaid = new ArrayList<>();
    private final List<Integer> book = new ArrayList<>();

    // ---- the voyage

    int feed(int letter) {
        if (letter < 0 || letter > 255) {
            return OUTSIDE;
        }
        if (text.length() == 220) {
            return FULL;
        }
        text += (char) letter;
        return text.length();
    }

    /** A clause is all there or a fault is thrown: its number and its place. */
    private static final class Fault extends Exception {
        private static final long serialVersionUID = 1L;
        final int kind;
        final int place;

        Fault(int kind, int place) {
            this.kind = kind;
            this.place = place;
        }
    }

    private record Token(char sign, int place, String figures) {
    }

    private static List<Token> tokens(String text) {
        List<Token> tokens = new ArrayList<>();
        java.util.regex.Matcher m = java.util.regex.Pattern.compile("[0-9]+|[^ 0-9]", java.util.regex.Pattern.DOTALL)
            .matcher(text);
        while (m.find()) {
            boolean isNumber = Character.isDigit(m.group().charAt(0)) && m.group().charAt(0) < 128;
            tokens.add(new Token(isNumber ? '#' : m.group().charAt(0), m.start(),
                isNumber ? m.group() : ""));
        }
        tokens.add(new Token('$', text.length(), null));
        return tokens;
    }

    int voyage() {
        List<Token> tokens = tokens(text);
        text = "";
        List<int[]> ships = new ArrayList<>();
        List<int[]> newLegs = new ArrayList<>();
        List<int[]> newLenders = new ArrayList<>();
        try {
            int t = 0;
            while (tokens.get(t).figures() != null) {
                Token word = tokens.get(t);
                boolean isWord = word.figures().isEmpty() && "slm".indexOf(word.sign()) >= 0;
                if (!isWord || ships.isEmpty() && word.sign() != 's') {
                    throw new Fault(1, word.place());
                }
                List<int[]> into = word.sign() == 's' ? ships : word.sign() == 'l' ? newLegs : newLenders;
                int most = word.sign() == 's' ? 1 : word.sign() == 'l' ? 7 : 5;
                if (into.size() == most) {
                    throw new Fault(3, word.place());
                }
                int[][] bounds = word.sign() == 's' ? new int[][] {{1, 999}, {0, 999}, {0, 9}, {0, 999}}
                    : word.sign() == 'l' ? new int[][] {{0, 99}, {0, 9}, {1, 99}}
                    : new int[][] {{0, 999}, {0, 200}};
                int[] numbers = new int[bounds.length];
                for (int n = 0; n < bounds.length; n++) {
                    numbers[n] = number(tokens.get(t + 1 + n), bounds[n][0], bounds[n][1]);
                }
                Token end = tokens.get(t + 1 + bounds.length);
                if (end.figures() == null || !end.figures().isEmpty() || end.sign() != ';') {
                    throw new Fault(1, end.place());
                }
                into.add(numbers);
                t += 2 + bounds.length;
            }
        } catch (Fault fault) {
            faultPlace = fault.place;
            return -10 - fault.kind;
        }
        faultPlace = NONE;
        hasShip = !ships.isEmpty();
        w = hasShip ? ships.get(0)[0] : 0;
        f = hasShip ? ships.get(0)[1] : 0;
        legs = newLegs;
        lenders = newLenders;
        she = new Snapshot(hasShip ? ships.get(0)[2] : 0, hasShip ? ships.get(0)[3] : 0, 0, false, List.of());
        past.clear();
        images[0] = null;
        images[1] = null;
        toldPaid.clear();
        book.clear();
        return legs.size();
    }

    private static int number(Token token, int least, int most) throws Fault {
        if (token.figures() == null || token.figures().isEmpty()) {
            throw new Fault(1, token.place());
        }
        BigInteger value = new BigInteger(token.figures());
        boolean within = value.compareTo(BigInteger.valueOf(least)) >= 0
            && value.compareTo(BigInteger.valueOf(most)) <= 0;
        if (token.figures().length() > 3 || !within) {
            throw new Fault(2, token.place());
        }
        return value.intValue();
    }

    int fault() {
        return faultPlace;
    }

    int told(int what) {
        int owed = 0;
        for (Loan loan : she.loans()) {
            owed += loan.due();
        }
        int[] all = {w, f, she.state(), she.purse(), legs.size(), lenders.size(), she.loans().size(), text.length(),
            she.sailed(), place(), owed, tryable() ? left(she.purse(), she.loans()) : 0, toldPaid.size(), book.size(),
            past.size()};
        return what < 0 || what >= all.length ? OUTSIDE : all[what];
    }

    int leg(int l, int what) {
        if (l < 0 || l >= legs.size()) {
            return UNKNOWN;
        }
        if (what < 0 || what > 3) {
            return OUTSIDE;
        }
        return what == 3 ? odds(l, she.state()) : legs.get(l)[what];
    }

    int lender(int m, int what) {
        if (m < 0 || m >= lenders.size()) {
            return UNKNOWN;
        }
        if (what < 0 || what > 2) {
            return OUTSIDE;
        }
        return what == 2 ? hasYet(m) : lenders.get(m)[what];
    }

    int loan(int i, int what) {
        if (i < 0 || i >= she.loans().size()) {
            return UNKNOWN;
        }
        if (what < 0 || what > 5) {
            return OUTSIDE;
        }
        Loan loan = she.loans().get(i);
        int[] all = {loan.lender(), loan.amount(), loan.onFreight() ? 1 : 0, loan.due(), loan.taken(),
            order(she.loans()).indexOf(i)};
        return all[what];
    }

    // ---- what is done

    int borrow(int m, int v, boolean onFreight) {
        if (m < 0 || m >= lenders.size()) {
            return UNKNOWN;
        }
        if (v < 1 || v > 999) {
            return OUTSIDE;
        }
        if (place() != 0 || v > hasYet(m)) {
            return NOT;
        }
        if (she.loans().size() == 8) {
            return FULL;
        }
        act(new Snapshot(she.state(), she.purse() + v, she.sailed(), false, with(m, v, onFreight)));
        return she.loans().size() - 1;
    }

    int repair(int k) {
        if (k < 1 || k > 9) {
            return OUTSIDE;
        }
        if (place() != 0) {
            return NOT;
        }
        int cost = k * legs.get(she.sailed())[2];
        if (she.state() + k > 9 || she.purse() < cost) {
            return NOT;
        }
        act(new Snapshot(she.state() + k, she.purse() - cost, she.sailed(), false, she.loans()));
        return she.state();
    }

    int sail(boolean comes) {
        if (place() != 0) {
            return NOT;
        }
        act(behindLeg(she, comes));
        return she.sailed();
    }

    int drift(int n) {
        if (n < 1 || n > 7) {
            return OUTSIDE;
        }
        if (place() != 0) {
            return NOT;
        }
        Snapshot then = she;
        for (int i = 0; i < n && !then.lost() && then.sailed() < legs.size(); i++) {
            BigInteger next = BigInteger.valueOf(seed).multiply(BigInteger.valueOf(1103515245))
                .add(BigInteger.valueOf(12345)).mod(BigInteger.TWO.pow(31));
            seed = next.intValueExact();
            then = behindLeg(then, seed / 65536 % 100 >= odds(then.sailed(), then.state()));
        }
        act(then);
        return place();
    }

    int undo() {
        if (past.isEmpty()) {
            return NOT;
        }
        she = past.remove(past.size() - 1);
        return past.size();
    }

    // ---- tried

    int comesHome() {
        if (!tryable()) {
            return NOT;
        }
        int state = she.state();
        int there = 1000000;
        for (int l = she.sailed(); l < legs.size(); l++) {
            there = there * (100 - odds(l, state)) / 100;
            state = state == 0 ? 0 : state - 1;
        }
        return there;
    }

    int rate() {
        if (!tryable()) {
            return NOT;
        }
        for (int r = 0; r <= 999; r++) {
            if ((100L + r) * comesHome() >= 100L * 1000000L) {
                return r;
            }
        }
        return NONE;
    }

    int willing() {
        if (!tryable()) {
            return NOT;
        }
        int set = 0;
        for (int m = 0; m < lenders.size(); m++) {
            if (rate() != NONE && lenders.get(m)[1] >= rate()) {
                set += 1 << m;
            }
        }
        return set;
    }

    int paid(int i) {
        if (i < 0 || i >= she.loans().size()) {
            return UNKNOWN;
        }
        return tryable() ? pay(she.loans(), w, she.purse())[i] : NOT;
    }

    int hurt(int m, int v, boolean onFreight) {
        if (m < 0 || m >= lenders.size()) {
            return UNKNOWN;
        }
        if (v < 1 || v > 999) {
            return OUTSIDE;
        }
        if (!tryable()) {
            return NOT;
        }
        int[] before = pay(she.loans(), w, she.purse());
        int[] behind = pay(with(m, v, onFreight), w, she.purse() + v);
        int set = 0;
        for (int i = 0; i < she.loans().size(); i++) {
            set += behind[i] < before[i] ? 1 << i : 0;
        }
        return set;
    }

    int share(int i, int v) {
        if (i < 0 || i >= she.loans().size()) {
            return UNKNOWN;
        }
        if (v < 0 || v > 999) {
            return OUTSIDE;
        }
        int rest = v;
        for (int j = she.loans().size() - 1; j >= 0; j--) {
            Loan loan = she.loans().get(j);
            int part = loan.onFreight() ? 0 : Math.min(rest, loan.due());
            if (j == i) {
                return part;
            }
            rest -= part;
        }
        return 0;
    }

    int plan(int i) {
        if (!tryable()) {
            return NOT;
        }
        int ports = legs.size() - she.sailed();
        long best = -1;
        int[] bestWay = null;
        int ways = (int) Math.pow(3, ports);
        for (int way = 0; way < ways; way++) {
            int[] points = new int[ports];
            int rest = way;
            for (int p = ports - 1; p >= 0; p--) {
                points[p] = rest % 3;
                rest /= 3;
            }
            long much = muchBy(points);
            if (much > best) {
                best = much;
                bestWay = points;
            }
        }
        if (i == NONE) {
            return (int) best;
        }
        return i < 0 || i >= ports ? NONE : bestWay[i];
    }

    private long muchBy(int[] points) {
        int state = she.state();
        int purse = she.purse();
        long there = 1000000;
        for (int p = 0; p < points.length; p++) {
            int leg = she.sailed() + p;
            state += points[p];
            purse -= points[p] * legs.get(leg)[2];
            if (state > 9 || purse < 0) {
                return -1;
            }
            there = there * (100 - odds(leg, state)) / 100;
            state = Math.max(0, state - 1);
        }
        return there * left(purse, she.loans()) / 1000;
    }

    int belief(int ago, int state) {
        if (ago < 0 || ago > 7 || state < 0 || state > 9) {
            return OUTSIDE;
        }
        int there = 1000000;
        int then = state;
        for (int l = 0; l < she.sailed(); l++) {
            if (l >= she.sailed() - ago) {
                there = there * (100 - odds(l, then)) / 100;
                then = then == 0 ? 0 : then - 1;
            }
        }
        return there;
    }

    int need(int t, int what) {
        if (t < 0 || t > 9 || what < 0 || what > 1) {
            return OUTSIDE;
        }
        if (place() != 0) {
            return NOT;
        }
        int lacking = 0;
        if (t > she.state()) {
            int cost = (t - she.state()) * legs.get(she.sailed())[2];
            lacking = cost > she.purse() ? cost - she.purse() : 0;
        }
        if (what == 0) {
            return lacking;
        }
        for (int r = 0; r <= 200; r++) {
            for (int m = 0; m < lenders.size(); m++) {
                if (lenders.get(m)[1] == r && hasYet(m) >= lacking) {
                    return m;
                }
            }
        }
        return NONE;
    }

    // ---- what was paid

    int tell(int i, int v) {
        if (i < 0 || i >= she.loans().size()) {
            return UNKNOWN;
        }
        if (v < 0 || v > 9999) {
            return OUTSIDE;
        }
        if (toldPaid.size() == 6) {
            return FULL;
        }
        toldPaid.add(new int[] {i, v});
        return toldPaid.size();
    }

    int worth(int what) {
        if (what < 0 || what > 2) {
            return OUTSIDE;
        }
        if (!tryable()) {
            return NOT;
        }
        int many = 0;
        int least = NONE;
        int greatest = NONE;
        for (int v = 0; v <= 999; v++) {
            int[] paid = pay(she.loans(), v, she.purse());
            boolean fits = true;
            for (int[] one : toldPaid) {
                fits &= one[0] < she.loans().size() && paid[one[0]] == one[1];
            }
            if (fits) {
                many++;
                least = least == NONE ? v : least;
                greatest = v;
            }
        }
        return new int[] {many, least, greatest}[what];
    }

    int write(int purse) {
        if (purse < 0 || purse > 9999) {
            return OUTSIDE;
        }
        if (book.size() == 15) {
            return FULL;
        }
        book.add(purse);
        return book.size();
    }

    int tear() {
        int both = toldPaid.size() + book.size();
        toldPaid.clear();
        book.clear();
        return both;
    }

    int judge() {
        for (int n = 0; n < book.size(); n++) {
            if (book.get(n) != she.purse()) {
                return n;
            }
        }
        return NONE;
    }

    // ---- draws, images

    int seed(int v) {
        if (v < 0) {
            return OUTSIDE;
        }
        int was = seed;
        seed = v;
        return was;
    }

    int keep(int i) {
        if (i < 0 || i > 1) {
            return UNKNOWN;
        }
        images[i] = she;
        imageSeeds[i] = seed;
        past.clear();
        return 1;
    }

    int goBack(int i) {
        if (i < 0 || i > 1) {
            return UNKNOWN;
        }
        if (images[i] == null) {
            return NOT;
        }
        she = images[i];
        seed = imageSeeds[i];
        past.clear();
        return 1;
    }

    // ---- by itself

    private int place() {
        return she.lost() ? 2 : she.sailed() == legs.size() ? 1 : 0;
    }

    private boolean tryable() {
        return hasShip && !she.lost();
    }

    private int odds(int leg, int state) {
        return Math.min(100, legs.get(leg)[0] + (9 - state) * legs.get(leg)[1]);
    }

    private int hasYet(int m) {
        int has = lenders.get(m)[0];
        for (Loan loan : she.loans()) {
            has -= loan.lender() == m ? loan.amount() : 0;
        }
        return has;
    }

    private void act(Snapshot then) {
        past.add(she);
        if (past.size() > 20) {
            past.remove(0);
        }
        she = then;
    }

    private static Snapshot behindLeg(Snapshot now, boolean comes) {
        return comes
            ? new Snapshot(now.state() == 0 ? 0 : now.state() - 1, now.purse(), now.sailed() + 1, false, now.loans())
            : new Snapshot(now.state(), now.purse(), now.sailed(), true, now.loans());
    }

    private List<Loan> with(int m, int v, boolean onFreight) {
        List<Loan> more = new ArrayList<>(she.loans());
        more.add(new Loan(m, v, onFreight, v + v * lenders.get(m)[1] / 100, she.sailed()));
        return more;
    }

    /** The numbers of the loans as they are paid. */
    private static List<Integer> order(List<Loan> loans) {
        List<Integer> order = new ArrayList<>();
        for (int turn = 0; turn < 2; turn++) {
            for (int i = loans.size() - 1; i >= 0; i--) {
                if (loans.get(i).onFreight() == (turn == 0)) {
                    order.add(i);
                }
            }
        }
        return order;
    }

    /** What each is paid; behind them, what is left. */
    private int[] pay(List<Loan> loans, int worth, int purse) {
        int[] paid = new int[loans.size() + 1];
        int rest = f;
        boolean joined = false;
        for (int i : order(loans)) {
            if (!loans.get(i).onFreight() && !joined) {
                rest += worth + purse;
                joined = true;
            }
            paid[i] = Math.min(rest, loans.get(i).due());
            rest -= paid[i];
        }
        paid[loans.size()] = joined ? rest : rest + worth + purse;
        return paid;
    }

    private int left(int purse, List<Loan> loans) {
        return pay(loans, w, purse)[loans.size()];
    }
}
