/** A ship pledged for money that is owed only if she comes home, as ../shared/DOC.md promises it. */
public final class BottomryLoans {
    public static final int NONE = -1, UNKNOWN = -1000000001, OUTSIDE = -1000000002, NOT = -1000000003, FULL = -1000000004;

    private static final int MILLION = 1000000;
    private static final int TEXT_MOST = 220;
    private static final int LETTER_MOST = 255;
    private static final int LEGS_MOST = 7;
    private static final int LENDERS_MOST = 5;
    private static final int LOANS_MOST = 8;
    private static final int STATE_MOST = 9;
    private static final int ACTS_MOST = 20;
    private static final int TOLD_MOST = 6;
    private static final int BOOK_MOST = 15;
    private static final int MONEY_MOST = 999;
    private static final int ENTRY_MOST = 9999;
    private static final int RATE_MOST = 999;

    /** Where she is. */
    private static final int IN_PORT = 0, AT_HOME = 1, IS_LOST = 2;

    /** The columns of the tables, as leg(), lender() and loan() number them. */
    private static final int WORTH = 0, FREIGHT = 1, STATE = 2, PURSE = 3;
    private static final int DANGER = 0, WEAR = 1, COST = 2, ODDS = 3;
    private static final int HAS = 0, ASKS = 1, HAS_YET = 2;
    private static final int LENT_BY = 0, AMOUNT = 1, KIND = 2, DUE = 3, TAKEN = 4, RANK = 5;

    /** The columns of what was told paid. */
    private static final int OF_LOAN = 0, WAS_PAID = 1;

    /** What a loan is on. */
    private static final int ON_SHIP = 0, ON_FREIGHT = 1;

    private final Table text = new Table(1, TEXT_MOST);
    private final Reader reader = new Reader(text);
    private final Voyage voyage = new Voyage();
    private final She she = new She();
    private final Past past = new Past();
    private final Image firstImage = new Image();
    private final Image secondImage = new Image();
    private final Planner planner = new Planner(voyage);
    private final Table toldPaid = new Table(2, TOLD_MOST);
    private final Table book = new Table(1, BOOK_MOST);
    private int faultPlace = NONE;
    private int drawSeed = 0;

    public BottomryLoans() {
    }

    // ---- the voyage

    public int feed(int letter) {
        if (letter < 0 || letter > LETTER_MOST) {
            return OUTSIDE;
        }
        if (text.isFull()) {
            return FULL;
        }
        text.add(letter);
        return text.rows();
    }

    public int voyage() {
        int kind = reader.readText();
        faultPlace = reader.placeOfFault();
        text.clear();
        if (kind != 0) {
            return -10 - kind;
        }
        voyage.become(reader.whatWasRead());
        she.begin(voyage);
        toldPaid.clear();
        book.clear();
        firstImage.kept = false;
        secondImage.kept = false;
        past.clear();
        planner.forget();
        return voyage.legs.rows();
    }

    public int fault() {
        return faultPlace;
    }

    public int told(int what) {
        switch (what) {
            case 0: return voyage.ship.get(0, WORTH);
            case 1: return voyage.ship.get(0, FREIGHT);
            case 2: return she.state;
            case 3: return she.purse;
            case 4: return voyage.legs.rows();
            case 5: return voyage.lenders.rows();
            case 6: return she.loans.rows();
            case 7: return text.rows();
            case 8: return she.sailed;
            case 9: return whereSheIs();
            case 10: return she.dueFrom(0, ON_FREIGHT) + she.dueFrom(0, ON_SHIP);
            case 11: return cannotTry() ? 0 : Math.max(0, leftBesidesPurse() + she.purse);
            case 12: return toldPaid.rows();
            case 13: return book.rows();
            case 14: return past.acts();
            default: return OUTSIDE;
        }
    }

    public int leg(int l, int what) {
        if (!voyage.legs.has(l)) {
            return UNKNOWN;
        }
        if (what < DANGER || what > ODDS) {
            return OUTSIDE;
        }
        return what == ODDS ? voyage.oddsOf(l, she.state) : voyage.legs.get(l, what);
    }

    public int lender(int m, int what) {
        if (!voyage.lenders.has(m)) {
            return UNKNOWN;
        }
        if (what < HAS || what > HAS_YET) {
            return OUTSIDE;
        }
        return what == HAS_YET ? hasYet(m) : voyage.lenders.get(m, what);
    }

    public int loan(int i, int what) {
        if (!she.loans.has(i)) {
            return UNKNOWN;
        }
        if (what < LENT_BY || what > RANK) {
            return OUTSIDE;
        }
        return what == RANK ? she.rankOf(i) : she.loans.get(i, what);
    }

    // ---- what is done

    public int borrow(int m, int v, boolean onFreight) {
        if (!voyage.lenders.has(m)) {
            return UNKNOWN;
        }
        if (v < 1 || v > MONEY_MOST) {
            return OUTSIDE;
        }
        if (!isInPort() || hasYet(m) < v) {
            return NOT;
        }
        if (she.loans.isFull()) {
            return FULL;
        }
        remember();
        int i = she.loans.open();
        she.loans.set(i, LENT_BY, m);
        she.loans.set(i, AMOUNT, v);
        she.loans.set(i, KIND, onFreight ? ON_FREIGHT : ON_SHIP);
        she.loans.set(i, DUE, voyage.dueOf(m, v));
        she.loans.set(i, TAKEN, she.sailed);
        she.purse += v;
        return i;
    }

    public int repair(int k) {
        if (k < 1 || k > STATE_MOST) {
            return OUTSIDE;
        }
        int price = k * costHere();
        if (!isInPort() || she.state + k > STATE_MOST || she.purse < price) {
            return NOT;
        }
        remember();
        she.state += k;
        she.purse -= price;
        return she.state;
    }

    public int sail(boolean comes) {
        if (!isInPort()) {
            return NOT;
        }
        remember();
        she.sailOn(comes);
        return she.sailed;
    }

    public int drift(int n) {
        if (n < 1 || n > LEGS_MOST) {
            return OUTSIDE;
        }
        if (!isInPort()) {
            return NOT;
        }
        remember();
        for (int i = 0; i < n && isInPort(); i++) {
            int odds = voyage.oddsOf(she.sailed, she.state);
            she.sailOn(drawOfHundred() >= odds);
        }
        return whereSheIs();
    }

    public int undo() {
        if (past.acts() == 0) {
            return NOT;
        }
        past.takeBack(she);
        planner.forget();
        return past.acts();
    }

    // ---- tried

    public int comesHome() {
        return cannotTry() ? NOT : voyage.chanceThrough(she.sailed, voyage.legs.rows(), she.state);
    }

    public int rate() {
        return cannotTry() ? NOT : rateFor(comesHome());
    }

    public int willing() {
        if (cannotTry()) {
            return NOT;
        }
        int least = rateFor(comesHome());
        int set = 0;
        for (int m = 0; m < voyage.lenders.rows(); m++) {
            if (least != NONE && voyage.lenders.get(m, ASKS) >= least) {
                set |= 1 << m;
            }
        }
        return set;
    }

    public int paid(int i) {
        if (!she.loans.has(i)) {
            return UNKNOWN;
        }
        return cannotTry() ? NOT : paidNow(i);
    }

    public int hurt(int m, int v, boolean onFreight) {
        if (!voyage.lenders.has(m)) {
            return UNKNOWN;
        }
        if (v < 1 || v > MONEY_MOST) {
            return OUTSIDE;
        }
        if (cannotTry()) {
            return NOT;
        }
        // the new loan would be the last, so it takes its due ahead of all others of its kind
        int due = voyage.dueOf(m, v);
        int freight = voyage.ship.get(0, FREIGHT) - (onFreight ? due : 0);
        int ship = shipMoney(freight) + v - (onFreight ? 0 : due);
        int set = 0;
        for (int i = 0; i < she.loans.rows(); i++) {
            if (she.paidOf(i, ship, freight) < paidNow(i)) {
                set |= 1 << i;
            }
        }
        return set;
    }

    public int share(int i, int v) {
        if (!she.loans.has(i)) {
            return UNKNOWN;
        }
        if (v < 0 || v > MONEY_MOST) {
            return OUTSIDE;
        }
        return she.paidOf(i, v, 0);
    }

    public int plan(int i) {
        if (cannotTry()) {
            return NOT;
        }
        if (!planner.isDone()) {
            planner.findBest(she, leftBesidesPurse());
        }
        return i == NONE ? planner.howMuch() : planner.pointsIn(i);
    }

    public int belief(int ago, int state) {
        if (ago < 0 || ago > LEGS_MOST || state < 0 || state > STATE_MOST) {
            return OUTSIDE;
        }
        return voyage.chanceThrough(Math.max(0, she.sailed - ago), she.sailed, state);
    }

    public int need(int t, int what) {
        if (t < 0 || t > STATE_MOST || what < 0 || what > 1) {
            return OUTSIDE;
        }
        if (!isInPort()) {
            return NOT;
        }
        int price = Math.max(0, t - she.state) * costHere();
        int lacking = Math.max(0, price - she.purse);
        return what == 0 ? lacking : cheapestLender(lacking);
    }

    // ---- what was paid

    public int tell(int i, int v) {
        if (!she.loans.has(i)) {
            return UNKNOWN;
        }
        if (v < 0 || v > ENTRY_MOST) {
            return OUTSIDE;
        }
        if (toldPaid.isFull()) {
            return FULL;
        }
        int n = toldPaid.open();
        toldPaid.set(n, OF_LOAN, i);
        toldPaid.set(n, WAS_PAID, v);
        return toldPaid.rows();
    }

    public int worth(int what) {
        if (what < 0 || what > 2) {
            return OUTSIDE;
        }
        if (cannotTry()) {
            return NOT;
        }
        int least = 0;
        int greatest = MONEY_MOST;
        for (int n = 0; n < toldPaid.rows(); n++) {
            least = Math.max(least, leastWorthFor(n));
            greatest = Math.min(greatest, greatestWorthFor(n));
        }
        int many = Math.max(0, greatest - least + 1);
        if (what == 0) {
            return many;
        }
        if (many == 0) {
            return NONE;
        }
        return what == 1 ? least : greatest;
    }

    public int write(int purse) {
        if (purse < 0 || purse > ENTRY_MOST) {
            return OUTSIDE;
        }
        if (book.isFull()) {
            return FULL;
        }
        book.add(purse);
        return book.rows();
    }

    public int tear() {
        int both = toldPaid.rows() + book.rows();
        toldPaid.clear();
        book.clear();
        return both;
    }

    public int judge() {
        for (int n = 0; n < book.rows(); n++) {
            if (book.get(n, 0) != she.purse) {
                return n;
            }
        }
        return NONE;
    }

    // ---- draws, images

    public int seed(int v) {
        if (v < 0) {
            return OUTSIDE;
        }
        int before = drawSeed;
        drawSeed = v;
        return before;
    }

    public int keep(int i) {
        Image image = imageOf(i);
        if (image == null) {
            return UNKNOWN;
        }
        image.ship.become(she);
        image.seedThen = drawSeed;
        image.kept = true;
        past.clear();
        return 1;
    }

    public int goBack(int i) {
        Image image = imageOf(i);
        if (image == null) {
            return UNKNOWN;
        }
        if (!image.kept) {
            return NOT;
        }
        she.become(image.ship);
        drawSeed = image.seedThen;
        past.clear();
        planner.forget();
        return 1;
    }

    // ---- where she is

    private int whereSheIs() {
        if (she.lost) {
            return IS_LOST;
        }
        return voyage.legs.has(she.sailed) ? IN_PORT : AT_HOME;
    }

    private boolean isInPort() {
        return whereSheIs() == IN_PORT;
    }

    private boolean cannotTry() {
        return she.lost || voyage.ship.rows() == 0;
    }

    private int costHere() {
        return voyage.legs.get(she.sailed, COST);
    }

    /** Every act calls this ahead of its first change. */
    private void remember() {
        past.put(she);
        planner.forget();
    }

    private int drawOfHundred() {
        long next = drawSeed * 1103515245L + 12345L;
        drawSeed = (int) (next & 0x7fffffffL);
        return drawSeed / 65536 % 100;
    }

    private Image imageOf(int i) {
        if (i == 0) {
            return firstImage;
        }
        return i == 1 ? secondImage : null;
    }

    // ---- lenders

    private int hasYet(int m) {
        return voyage.lenders.get(m, HAS) - she.lentBy(m);
    }

    private int cheapestLender(int amount) {
        int from = NONE;
        for (int m = 0; m < voyage.lenders.rows(); m++) {
            boolean asksLess = from == NONE || voyage.lenders.get(m, ASKS) < voyage.lenders.get(from, ASKS);
            if (asksLess && hasYet(m) >= amount) {
                from = m;
            }
        }
        return from;
    }

    private static int rateFor(int chance) {
        if (chance <= 0) {
            return NONE;
        }
        int hundredAndRate = (100 * MILLION + chance - 1) / chance;
        return hundredAndRate - 100 <= RATE_MOST ? hundredAndRate - 100 : NONE;
    }

    // ---- what is paid, were she home

    /** What all loans on the ship are paid of, if so much freight is there for the loans on freight. */
    private int shipMoney(int freight) {
        return voyage.ship.get(0, WORTH) + she.purse + Math.max(0, freight - she.dueFrom(0, ON_FREIGHT));
    }

    private int paidNow(int i) {
        int freight = voyage.ship.get(0, FREIGHT);
        return she.paidOf(i, shipMoney(freight), freight);
    }

    /** What the owner has left is this and the purse; it is below 0 where the loans eat of the purse. */
    private int leftBesidesPurse() {
        return shipMoney(voyage.ship.get(0, FREIGHT)) - she.purse - she.dueFrom(0, ON_SHIP);
    }

    // ---- what she was worth

    private boolean canBeSo(int n) {
        int i = toldPaid.get(n, OF_LOAN);
        int v = toldPaid.get(n, WAS_PAID);
        if (!she.loans.has(i)) {
            return false;
        }
        int freight = voyage.ship.get(0, FREIGHT);
        return isFreightTold(n) ? she.paidOf(i, 0, freight) == v : v <= she.loans.get(i, DUE);
    }

    /** A loan on freight is paid the same whatever she is worth. */
    private boolean isFreightTold(int n) {
        return she.loans.get(toldPaid.get(n, OF_LOAN), KIND) == ON_FREIGHT;
    }

    private int leastWorthFor(int n) {
        if (!canBeSo(n)) {
            return MONEY_MOST + 1;
        }
        return isFreightTold(n) || toldPaid.get(n, WAS_PAID) == 0 ? 0 : worthJustFor(n);
    }

    private int greatestWorthFor(int n) {
        if (!canBeSo(n)) {
            return NONE;
        }
        boolean paidWhole = toldPaid.get(n, WAS_PAID) == she.loans.get(toldPaid.get(n, OF_LOAN), DUE);
        return isFreightTold(n) || paidWhole ? MONEY_MOST : worthJustFor(n);
    }

    /** The worth by which exactly what was told comes down to that loan on the ship; it may be no worth at all. */
    private int worthJustFor(int n) {
        int besidesWorth = shipMoney(voyage.ship.get(0, FREIGHT)) - voyage.ship.get(0, WORTH);
        int paidAhead = she.dueFrom(toldPaid.get(n, OF_LOAN) + 1, ON_SHIP);
        return toldPaid.get(n, WAS_PAID) + paidAhead - besidesWorth;
    }

    /** Rows of numbers with a fixed room; a place that is not among them reads as 0 and takes nothing. */
    private static final class Table {
        private final int width;
        private final int most;
        private final int[] cells;
        private int rows = 0;

        Table(int width, int most) {
            this.width = width;
            this.most = most;
            this.cells = new int[Math.max(0, width * most)];
        }

        int width() {
            return width;
        }

        int rows() {
            return rows;
        }

        boolean has(int row) {
            return row >= 0 && row < rows;
        }

        boolean isFull() {
            return rows >= most;
        }

        void clear() {
            rows = 0;
        }

        int get(int row, int column) {
            int at = cellOf(row, column);
            return at >= 0 && at < cells.length ? cells[at] : 0;
        }

        void set(int row, int column, int value) {
            int at = cellOf(row, column);
            if (at >= 0 && at < cells.length) {
                cells[at] = value;
            }
        }

        /** One row more behind the others, to be set: its number; NONE if there is no room. */
        int open() {
            if (isFull()) {
                return NONE;
            }
            rows++;
            return rows - 1;
        }

        void add(int value) {
            set(open(), 0, value);
        }

        /** Both must have been made with the same room. */
        void become(Table other) {
            rows = Math.min(other.rows, most);
            System.arraycopy(other.cells, 0, cells, 0, Math.min(other.cells.length, cells.length));
        }

        private int cellOf(int row, int column) {
            boolean inside = row >= 0 && row < rows && column >= 0 && column < width;
            return inside ? row * width + column : NONE;
        }
    }

    /** What the text told: it stays as it is until the next text. */
    private static final class Voyage {
        final Table ship = new Table(4, 1);
        final Table legs = new Table(3, LEGS_MOST);
        final Table lenders = new Table(2, LENDERS_MOST);

        void clear() {
            ship.clear();
            legs.clear();
            lenders.clear();
        }

        void become(Voyage other) {
            ship.become(other.ship);
            legs.become(other.legs);
            lenders.become(other.lenders);
        }

        int oddsOf(int leg, int state) {
            int worn = STATE_MOST - state;
            return Math.min(100, legs.get(leg, DANGER) + legs.get(leg, WEAR) * worn);
        }

        /** Of so many that were there ahead of a leg, those behind it. */
        int comeThrough(int leg, int state, int there) {
            return there * (100 - oddsOf(leg, state)) / 100;
        }

        /** Of a million, those that come through the legs from one up to ahead of another. */
        int chanceThrough(int from, int to, int stateAtFirst) {
            int there = MILLION;
            int state = stateAtFirst;
            for (int l = from; l < to; l++) {
                there = comeThrough(l, state, there);
                state = Math.max(0, state - 1);
            }
            return there;
        }

        int dueOf(int lender, int amount) {
            return amount + amount * lenders.get(lender, ASKS) / 100;
        }
    }

    /** The text's clauses, read into a voyage of its own, so that a fault leaves the other as it was. */
    private static final class Reader {
        private static final int SHIP = 0, LEG = 1, LENDER = 2;
        private static final int CANNOT_STAND = 1, BAD_NUMBER = 2, TOO_MANY = 3;
        private static final int NUMBERS_MOST = 4;
        private static final int FIGURES_MOST = 3;

        /** By word and its number: four places for each word. */
        private static final int[] LEAST = {1, 0, 0, 0, 0, 0, 1, 0, 0, 0, 0, 0};
        private static final int[] GREATEST = {999, 999, 9, 999, 99, 9, 99, 0, 999, 200, 0, 0};

        private final Table text;
        private final Voyage draft = new Voyage();
        private int at = 0;
        private int faultKind = 0;
        private int faultAt = NONE;

        Reader(Table text) {
            this.text = text;
        }

        /** The number of the fault, 0 if there is none. */
        int readText() {
            at = 0;
            faultKind = 0;
            faultAt = NONE;
            draft.clear();
            skipBlanks();
            // a clause takes a letter at least, so there are no more clauses than letters
            for (int clause = 0; clause < TEXT_MOST && at < text.rows() && faultKind == 0; clause++) {
                readClause();
                skipBlanks();
            }
            return faultKind;
        }

        int placeOfFault() {
            return faultAt;
        }

        Voyage whatWasRead() {
            return draft;
        }

        /** The letter that is to be read; at the end 0, which can stand nowhere either. */
        private int letter() {
            return text.get(at, 0);
        }

        private void refuse(int kind, int place) {
            faultKind = kind;
            faultAt = place;
        }

        private void skipBlanks() {
            for (int i = 0; i < TEXT_MOST && letter() == ' '; i++) {
                at++;
            }
        }

        private void readClause() {
            int word = wordOf(letter());
            if (word == NONE || word != SHIP && draft.ship.rows() == 0) {
                refuse(CANNOT_STAND, at);
                return;
            }
            Table clauses = clausesOf(word);
            if (clauses.isFull()) {
                refuse(TOO_MANY, at);
                return;
            }
            at++;
            int row = clauses.open();
            for (int n = 0; n < clauses.width() && faultKind == 0; n++) {
                skipBlanks();
                clauses.set(row, n, readNumber(word * NUMBERS_MOST + n));
            }
            if (faultKind == 0) {
                skipBlanks();
                readEnd();
            }
        }

        private static int wordOf(int letter) {
            switch (letter) {
                case 's': return SHIP;
                case 'l': return LEG;
                case 'm': return LENDER;
                default: return NONE;
            }
        }

        private Table clausesOf(int word) {
            if (word == SHIP) {
                return draft.ship;
            }
            return word == LEG ? draft.legs : draft.lenders;
        }

        private int readNumber(int bound) {
            int first = at;
            int number = 0;
            for (int i = 0; i < TEXT_MOST && letter() >= '0' && letter() <= '9'; i++) {
                // a number of too many figures is refused by their count, so it need not be kept whole
                number = Math.min(number, MONEY_MOST) * 10 + letter() - '0';
                at++;
            }
            int figures = at - first;
            if (figures == 0) {
                refuse(CANNOT_STAND, first);
            } else if (figures > FIGURES_MOST || !isWithin(bound, number)) {
                refuse(BAD_NUMBER, first);
            }
            return number;
        }

        private static boolean isWithin(int bound, int number) {
            if (bound < 0 || bound >= LEAST.length || bound >= GREATEST.length) {
                return false;
            }
            return number >= LEAST[bound] && number <= GREATEST[bound];
        }

        private void readEnd() {
            if (letter() == ';') {
                at++;
            } else {
                refuse(CANNOT_STAND, at);
            }
        }
    }

    /** All that an act changes and that undo and images bring back. */
    private static final class She {
        final Table loans = new Table(5, LOANS_MOST);
        int state = 0;
        int purse = 0;
        int sailed = 0;
        boolean lost = false;

        void begin(Voyage voyage) {
            loans.clear();
            state = voyage.ship.get(0, STATE);
            purse = voyage.ship.get(0, PURSE);
            sailed = 0;
            lost = false;
        }

        void become(She other) {
            loans.become(other.loans);
            state = other.state;
            purse = other.purse;
            sailed = other.sailed;
            lost = other.lost;
        }

        void sailOn(boolean comes) {
            if (comes) {
                sailed++;
                state = Math.max(0, state - 1);
            } else {
                lost = true;
            }
        }

        int lentBy(int lender) {
            int sum = 0;
            for (int i = 0; i < loans.rows(); i++) {
                sum += loans.get(i, LENT_BY) == lender ? loans.get(i, AMOUNT) : 0;
            }
            return sum;
        }

        /** What is due for the loans of one kind from a number on: the last is paid first. */
        int dueFrom(int first, int kind) {
            int sum = 0;
            for (int i = first; i < loans.rows(); i++) {
                sum += loans.get(i, KIND) == kind ? loans.get(i, DUE) : 0;
            }
            return sum;
        }

        int rankOf(int loan) {
            int kind = loans.get(loan, KIND);
            int ahead = kind == ON_SHIP ? countFrom(0, ON_FREIGHT) : 0;
            return ahead + countFrom(loan + 1, kind);
        }

        int paidOf(int loan, int shipMoney, int freightMoney) {
            int kind = loans.get(loan, KIND);
            int money = kind == ON_FREIGHT ? freightMoney : shipMoney;
            int comesDown = money - dueFrom(loan + 1, kind);
            return Math.max(0, Math.min(comesDown, loans.get(loan, DUE)));
        }

        private int countFrom(int first, int kind) {
            int count = 0;
            for (int i = first; i < loans.rows(); i++) {
                count += loans.get(i, KIND) == kind ? 1 : 0;
            }
            return count;
        }
    }

    /** How she was ahead of each of the latest acts, in a ring so that the oldest is written over. */
    private static final class Past {
        private final She[] ring = new She[ACTS_MOST];
        private int next = 0;
        private int acts = 0;

        Past() {
            for (int i = 0; i < ring.length; i++) {
                ring[i] = new She();
            }
        }

        int acts() {
            return acts;
        }

        void clear() {
            acts = 0;
        }

        void put(She now) {
            She slot = slotOf(next);
            if (slot != null) {
                slot.become(now);
                next = next + 1 < ACTS_MOST ? next + 1 : 0;
                acts = Math.min(ACTS_MOST, acts + 1);
            }
        }

        void takeBack(She now) {
            int latest = next > 0 ? next - 1 : ACTS_MOST - 1;
            She slot = slotOf(latest);
            if (slot != null && acts > 0) {
                now.become(slot);
                next = latest;
                acts--;
            }
        }

        private She slotOf(int i) {
            return i >= 0 && i < ring.length ? ring[i] : null;
        }
    }

    /** How she and the seed were when it was kept. */
    private static final class Image {
        final She ship = new She();
        int seedThen = 0;
        boolean kept = false;
    }

    /** The best repairs of all; they are sought once and hold until something is done. */
    private static final class Planner {
        private static final int POINTS_MOST = 2;

        private final Voyage voyage;
        private final Table tried = new Table(1, LEGS_MOST);
        private final Table best = new Table(1, LEGS_MOST);
        private int firstLeg = 0;
        private int leftBesidesPurse = 0;
        private long most = NONE;
        private boolean done = false;

        Planner(Voyage voyage) {
            this.voyage = voyage;
        }

        void forget() {
            done = false;
        }

        boolean isDone() {
            return done;
        }

        int howMuch() {
            return (int) most;
        }

        int pointsIn(int port) {
            return best.has(port) ? best.get(port, 0) : NONE;
        }

        void findBest(She she, int besidesPurse) {
            firstLeg = she.sailed;
            leftBesidesPurse = besidesPurse;
            most = NONE;
            tried.clear();
            for (int l = firstLeg; l < voyage.legs.rows(); l++) {
                tried.add(0);
            }
            tryFrom(0, she.state, she.purse, MILLION);
            done = true;
        }

        private void tryFrom(int port, int state, int purse, int chance) {
            long much = (long) chance * Math.max(0, leftBesidesPurse + purse) / 1000;
            // chance and purse only shrink from port to port, so nothing behind here is more than this
            if (much <= most) {
                return;
            }
            if (port >= tried.rows()) {
                most = much;
                best.become(tried);
                return;
            }
            for (int k = 0; k <= POINTS_MOST; k++) {
                tryPoints(port, k, state + k, purse, chance);
            }
        }

        private void tryPoints(int port, int points, int stateThen, int purse, int chance) {
            int leg = firstLeg + port;
            int purseThen = purse - points * voyage.legs.get(leg, COST);
            if (stateThen > STATE_MOST || purseThen < 0) {
                return;
            }
            tried.set(port, 0, points);
            tryFrom(port + 1, Math.max(0, stateThen - 1), purseThen, voyage.comeThrough(leg, stateThen, chance));
        }
    }
}
