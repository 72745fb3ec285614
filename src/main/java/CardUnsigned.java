import java.util.Arrays;

/** Cards without a name in an office: who could have written them, and what follows from it. */
public final class CardUnsigned {
    public static final int BAD = -1, NOT = -2, FULL = -3, STATE = -5, VOID = -2000000000;

    private static final long VOID_LONG = -9223372036854775808L;
    private static final int NOTHING_THERE = -11, OTHER_KIND = -12, NO_PLACE = -13, SIZE_BELOW_ZERO = -14;
    private static final int SHELVES = 6;

    private final Office office;
    private final Changes changes;
    private final Parser parser;
    private final Law law;
    private final Thought thought;
    private final Plans plans;
    private final Rows rows;
    private final Deeds deeds;
    private final Bodies bodies;
    private final Shelf[] shelves;

    public CardUnsigned() {
        office = new Office();
        changes = new Changes(office);
        parser = new Parser();
        law = new Law();
        thought = new Thought(office, law);
        plans = new Plans(office, thought);
        rows = new Rows(office, thought);
        deeds = new Deeds(office);
        bodies = new Bodies();
        shelves = new Shelf[SHELVES];
        for (int i = 0; i < SHELVES; i++) {
            shelves[i] = new Shelf();
        }
    }

    // ---- people, cards

    public int person(int hand) {
        if (!office.fits(Office.HAND, hand)) {
            return BAD;
        }
        return office.people >= Office.MOST_PEOPLE ? FULL : office.addPerson(hand, 0, 0);
    }

    public int people(int shelf, int i, int n) {
        Shelf from = shelfAt(shelf);
        if (from == null || n < 1 || n > Office.MOST_PEOPLE) {
            return BAD;
        }
        if (from.holds == Shelf.NOTHING) {
            return 0;
        }
        return from.isRowOf(Shelf.SHORTS) ? rows.peopleCome(from, i, n) : OTHER_KIND;
    }

    public int card(int ta, int what) {
        if (ta < 0 || !office.isPerson(ta / 100) || !office.isWay(what)) {
            return BAD;
        }
        return office.cards >= Office.MOST_CARDS ? FULL : office.addCard(ta / 100, ta % 100, what);
    }

    public int mend(int number, int what, int v) {
        if (what > Office.LOSS || !office.has(number, what) || !office.fits(what, v)) {
            return VOID;
        }
        int before = office.numbers[what][number];
        if (before != v) {
            changes.make(number, what, v);
        }
        return before;
    }

    public int of(int number, int what) {
        return office.has(number, what) ? office.numbers[what][number] : VOID;
    }

    public int feed(int letter) {
        if (letter < 0 || letter > 255) {
            return BAD;
        }
        return parser.tapeSize >= Parser.TAPE ? FULL : parser.takeLetter(letter);
    }

    public int law() {
        int fault = parser.parseTape();
        if (fault >= 0) {
            return -100 - fault;
        }
        law.adopt(parser.steps, parser.size);
        return 1;
    }

    // ---- cards in thought

    public int could(int card) {
        return office.isCard(card) ? office.whoCould(card) : BAD;
    }

    public int counts(int ct) {
        if (!office.isCardAndPerson(ct)) {
            return BAD;
        }
        thought.weigh(ct / 10);
        return thought.weights[ct % 10];
    }

    public long likely(int ct, int part) {
        if (!office.isCardAndPerson(ct) || !isZeroOrOne(part)) {
            return VOID_LONG;
        }
        int all = thought.weigh(ct / 10);
        return thought.lowestTerms(thought.weights[ct % 10], all, part);
    }

    public int likeliest(int card, int what) {
        if (!office.isCard(card) || !isZeroOrOne(what)) {
            return BAD;
        }
        return what == 0 ? thought.likeliestOf(card, office.everybody()) : thought.onlyOne(card);
    }

    public int allByOne(int set) {
        return office.isSet(set) ? thought.whoCouldAll(set) : BAD;
    }

    public int hands(int set, int what) {
        if (!office.isSet(set) || !isZeroOrOne(what)) {
            return BAD;
        }
        int who = thought.fewestHands(set);
        return who == NOT || what == 1 ? who : Integer.bitCount(who);
    }

    public int unlike(int set) {
        return office.isSet(set) ? thought.waysByUnlike(set) : BAD;
    }

    public int evenings(int secret, int n) {
        if (!office.isSecret(secret) || n < 0 || n > Office.EVENINGS) {
            return BAD;
        }
        return office.whoKnowsAfter(secret, n);
    }

    public int hears(int secret, int one) {
        if (!office.isSecret(secret) || !office.isPerson(one)) {
            return BAD;
        }
        return office.eveningOfHearing(secret, one);
    }

    public int ask(int card, int what) {
        if (!office.isCard(card) || !isZeroOrOne(what)) {
            return BAD;
        }
        return plans.bestQuestion(card, what);
    }

    public int worth(int ct) {
        if (!office.isCardAndPerson(ct)) {
            return VOID;
        }
        int all = thought.weigh(ct / 10);
        return plans.worthOfThanking(ct % 10, all);
    }

    public int thank(int card) {
        return office.isCard(card) ? plans.whomToThank(card) : BAD;
    }

    public int next(int card, int what) {
        if (!office.isCard(card) || !isZeroOrOne(what)) {
            return BAD;
        }
        return plans.tellingSecret(card, what);
    }

    public int write(int ft, int minute, int how) {
        if (!office.isTwoPeople(ft) || !office.fits(Office.AT, minute) || !isZeroOrOne(how)) {
            return BAD;
        }
        plans.seekWay(ft / 10, ft % 10, minute, how);
        return plans.way;
    }

    public long written(int ft, int minute, int hp) {
        boolean asSaid = hp >= 0 && isZeroOrOne(hp / 10) && isZeroOrOne(hp % 10);
        if (!office.isTwoPeople(ft) || !office.fits(Office.AT, minute) || !asSaid) {
            return VOID_LONG;
        }
        plans.seekWay(ft / 10, ft % 10, minute, hp / 10);
        return thought.lowestTerms(plans.wayTop, plans.wayBelow, hp % 10);
    }

    // ---- looks, letters

    public int looks(int shelf, int one) {
        Shelf from = shelfAt(shelf);
        if (from == null || one < -2 || one >= office.people) {
            return BAD;
        }
        int refused = from.refusalOfRow(Shelf.BYTES);
        if (refused != 0) {
            return refused;
        }
        if (one == -2) {
            return rows.firstLookFromOutside(from);
        }
        rows.tallyLooks(from, 0);
        return one == -1 ? rows.mostTallied() : rows.tally[one];
    }

    public int since(int shelf, int m) {
        Shelf from = shelfAt(shelf);
        if (from == null || !office.fits(Office.AT, m)) {
            return BAD;
        }
        int refused = from.refusalOfRow(Shelf.BYTES);
        if (refused != 0) {
            return refused;
        }
        rows.tallyLooks(from, m);
        return rows.mostTallied();
    }

    public int judge(int shelf) {
        Shelf from = shelfAt(shelf);
        if (from == null) {
            return BAD;
        }
        int refused = from.refusalOfRow(Shelf.SHORTS);
        return refused != 0 ? refused : rows.firstWrongLetter(from);
    }

    public long filled(int shelf, int what) {
        Shelf from = shelfAt(shelf);
        if (from == null || !isZeroOrOne(what) || !from.isRowOf(Shelf.SHORTS)) {
            return VOID_LONG;
        }
        return rows.firstWrongLetter(from) == NOT ? rows.lettersFilled(from, what) : 0;
    }

    public int hope(int card, int what) {
        if (!office.isCard(card) || !isZeroOrOne(what)) {
            return BAD;
        }
        return plans.hopeOfReceiver(card, what);
    }

    public int drawn(int card, int seed, int n, int one) {
        if (!office.isCard(card) || n < 1 || n > 50 || one < -1 || one >= office.people) {
            return BAD;
        }
        return plans.timesDrawn(card, seed, n, one);
    }

    // ---- in deed

    public int pass(int n) {
        if (n < 1 || n > 99) {
            return BAD;
        }
        return deeds.now + n > 99 ? STATE : deeds.letMinutesPass(n);
    }

    public int send(int ft, int what) {
        if (!office.isTwoPeople(ft) || !office.isWay(what) || !office.canWriteSo(ft / 10, what, deeds.now)) {
            return BAD;
        }
        return office.cards >= Office.MOST_CARDS ? FULL : deeds.sendCard(ft / 10, ft % 10, what);
    }

    public int thanked(int ct) {
        if (!office.isCardAndPerson(ct)) {
            return BAD;
        }
        return deeds.mayBeThanked(ct / 10) ? deeds.thankOne(ct / 10, ct % 10) : STATE;
    }

    public int led(int what) {
        switch (what) {
            case 0:
                return deeds.sent;
            case 1:
                return deeds.right + deeds.wrong;
            case 2:
                return deeds.right;
            case 3:
                return deeds.wrong;
            case 4:
                return deeds.now;
            default:
                return BAD;
        }
    }

    public int image() {
        return deeds.keepImage();
    }

    public int back() {
        return deeds.imageKept ? deeds.layImageBack() : STATE;
    }

    public int undo() {
        return changes.done > 0 ? changes.takeBack() : STATE;
    }

    public int redo() {
        return changes.undone > 0 ? changes.makeAgain() : STATE;
    }

    // ---- acts, shelves

    public int body(int kind) {
        if (!bodies.isKind(kind)) {
            return BAD;
        }
        return bodies.size >= Bodies.MOST ? FULL : bodies.add(kind);
    }

    public int act(int body, int act, int x) {
        return bodies.perform(body, act, x);
    }

    public int trace(int i) {
        return i >= 0 && i < bodies.traced() ? bodies.trace[i] : BAD;
    }

    public int keep(int shelf, int body) {
        Shelf into = shelfAt(shelf);
        if (into == null || body != -1 && !bodies.isBody(body)) {
            return BAD;
        }
        into.holdLook(body);
        return 1;
    }

    public int row(int shelf, int sort, int n) {
        Shelf into = shelfAt(shelf);
        if (into == null || sort < Shelf.BYTES || sort > Shelf.BOOLEANS || n > Shelf.MOST) {
            return BAD;
        }
        if (n < 0) {
            return SIZE_BELOW_ZERO;
        }
        into.holdRow(sort, n);
        return 1;
    }

    public int put(int shelf, int i, long v) {
        Shelf into = shelfAt(shelf);
        if (into == null) {
            return BAD;
        }
        int refused = into.refusalOfPlace(i);
        if (refused != 0) {
            return refused;
        }
        into.row[i] = into.lowestBits(v);
        return 1;
    }

    public long element(int shelf, int i) {
        Shelf from = shelfAt(shelf);
        return from == null || from.refusalOfPlace(i) != 0 ? VOID_LONG : from.row[i];
    }

    public int shift(int shelf, int i, int other, int j, int n) {
        Shelf from = shelfAt(shelf);
        Shelf into = shelfAt(other);
        if (from == null || into == null) {
            return BAD;
        }
        if (from.holds == Shelf.NOTHING || into.holds == Shelf.NOTHING) {
            return NOTHING_THERE;
        }
        if (from.holds != Shelf.ROW || !into.isRowOf(from.sort)) {
            return OTHER_KIND;
        }
        if (!from.hasPlaces(i, n) || !into.hasPlaces(j, n)) {
            return NO_PLACE;
        }
        System.arraycopy(from.row, i, into.row, j, n);
        return n;
    }

    public int taken(int shelf, int k) {
        Shelf from = shelfAt(shelf);
        if (from == null || !bodies.isKind(k)) {
            return BAD;
        }
        if (from.holds == Shelf.NOTHING) {
            return NOTHING_THERE;
        }
        boolean fits = from.holds == Shelf.LOOK && bodies.isUnder(from.body, k);
        return fits ? bodies.kinds[from.body] : OTHER_KIND;
    }

    public int count(int what) {
        switch (what) {
            case 0:
                return office.people;
            case 1:
                return office.cards;
            case 2:
                return parser.tapeSize;
            case 3:
                return changes.done;
            case 4:
                return bodies.size;
            case 5:
                return bodies.ran;
            default:
                return BAD;
        }
    }

    private Shelf shelfAt(int shelf) {
        return shelf >= 0 && shelf < SHELVES ? shelves[shelf] : null;
    }

    private static boolean isZeroOrOne(int v) {
        return v == 0 || v == 1;
    }

    /** People and cards: every number that can be asked for by what it is and whose it is. */
    private static final class Office {
        static final int FROM = 0, TILL = 1, HAND = 2, SHY = 3, LIKES = 4, KNOWS = 5;
        static final int AT = 6, SHOWN = 7, SECRET = 8, STAMP = 9;
        static final int FEIGNS = 10, GAIN = 11, LOSS = 12;
        static final int TO = 13, SENDER = 14, THANKED = 15;
        static final int MOST_PEOPLE = 8, MOST_CARDS = 6, SECRETS = 8, EVENINGS = 9;
        /** A place more than there can be cards: a card that is only thought of lies there. */
        private static final int PLACES = 8;
        private static final int[] LEAST = {0, 0, 0, 0, 0, 0, 0, -1, -1, 0, 0, 0, 0};
        private static final int[] MOST = {99, 99, 3, 9, 255, 255, 99, 3, 7, 1, 12, 99, 99};

        final int[][] numbers = new int[THANKED + 1][PLACES];
        int people;
        int cards;

        Office() {
            numbers[FEIGNS][0] = 2;
            numbers[GAIN][0] = 10;
            numbers[LOSS][0] = 10;
            Arrays.fill(numbers[SENDER], NOT);
            Arrays.fill(numbers[THANKED], NOT);
        }

        boolean isPerson(int one) {
            return one >= 0 && one < people;
        }

        boolean isCard(int card) {
            return card >= 0 && card < cards;
        }

        boolean isSecret(int secret) {
            return secret >= 0 && secret < SECRETS;
        }

        /** Whether this is a set, as bits, of cards that are there. */
        boolean isSet(int set) {
            return set >= 0 && set < 1 << cards;
        }

        boolean isCardAndPerson(int ct) {
            return ct >= 0 && isCard(ct / 10) && isPerson(ct % 10);
        }

        boolean isTwoPeople(int ft) {
            return ft >= 0 && isPerson(ft / 10) && isPerson(ft % 10) && ft / 10 != ft % 10;
        }

        boolean isWay(int what) {
            return what >= 0 && what / 100 <= SECRETS && what / 10 % 10 <= 4 && what % 10 <= 1;
        }

        boolean has(int number, int what) {
            if (what < FROM || what > THANKED) {
                return false;
            }
            if (what <= KNOWS) {
                return isPerson(number);
            }
            return what >= FEIGNS && what <= LOSS ? number == 0 : isCard(number);
        }

        boolean fits(int what, int v) {
            return what >= FROM && what <= LOSS && v >= LEAST[what] && v <= MOST[what];
        }

        int addPerson(int hand, int likes, int knows) {
            int one = people;
            numbers[FROM][one] = 0;
            numbers[TILL][one] = 99;
            numbers[HAND][one] = hand;
            numbers[SHY][one] = 0;
            numbers[LIKES][one] = likes;
            numbers[KNOWS][one] = knows;
            people++;
            return one;
        }

        int addCard(int to, int at, int what) {
            int card = cards;
            layCard(to, at, what);
            cards++;
            return card;
        }

        /** Lays a card behind those that are there, without its being there: so it can be thought of. */
        void layCard(int to, int at, int what) {
            int card = cards;
            numbers[TO][card] = to;
            numbers[AT][card] = at;
            numbers[SECRET][card] = what / 100 - 1;
            numbers[SHOWN][card] = what / 10 % 10 - 1;
            numbers[STAMP][card] = what % 10;
        }

        boolean likes(int one, int other) {
            return (numbers[LIKES][one] >> other & 1) != 0;
        }

        boolean knows(int one, int secret) {
            return (numbers[KNOWS][one] >> secret & 1) != 0;
        }

        boolean isIn(int one, int minute) {
            return numbers[FROM][one] <= minute && minute <= numbers[TILL][one];
        }

        boolean canWriteSo(int one, int what, int minute) {
            int secret = what / 100 - 1;
            return (secret < 0 || knows(one, secret)) && (what % 10 == 0 || isIn(one, minute));
        }

        int whoCould(int card) {
            return whoCouldWithSecret(card, numbers[SECRET][card]);
        }

        int whoCouldWithSecret(int card, int secret) {
            int who = everybody() & ~(1 << numbers[TO][card]);
            if (secret >= 0) {
                who &= whoKnows(secret);
            }
            return numbers[STAMP][card] == 0 ? who : who & whoIsIn(numbers[AT][card]);
        }

        int everybody() {
            return (1 << people) - 1;
        }

        private int whoIsIn(int minute) {
            int who = 0;
            for (int one = 0; one < people; one++) {
                if (isIn(one, minute)) {
                    who |= 1 << one;
                }
            }
            return who;
        }

        int whoKnows(int secret) {
            int who = 0;
            for (int one = 0; one < people; one++) {
                if (knows(one, secret)) {
                    who |= 1 << one;
                }
            }
            return who;
        }

        int whoKnowsAfter(int secret, int n) {
            int who = whoKnows(secret);
            for (int evening = 0; evening < n; evening++) {
                who = toldOn(who);
            }
            return who;
        }

        int eveningOfHearing(int secret, int one) {
            int who = whoKnows(secret);
            for (int evening = 0; evening <= EVENINGS; evening++) {
                if ((who >> one & 1) != 0) {
                    return evening;
                }
                who = toldOn(who);
            }
            return NOT;
        }

        private int toldOn(int who) {
            int now = who;
            for (int one = 0; one < people; one++) {
                if ((who >> one & 1) != 0) {
                    now |= numbers[LIKES][one];
                }
            }
            return now & everybody();
        }
    }

    /** The changes by mend(), kept in order: those that are done, then those that are undone. */
    private static final class Changes {
        private static final int KEPT = 40;

        private final Office office;
        private final int[] number = new int[KEPT];
        private final int[] what = new int[KEPT];
        private final int[] before = new int[KEPT];
        private final int[] behind = new int[KEPT];
        int done;
        int undone;

        Changes(Office office) {
            this.office = office;
        }

        void make(int whose, int which, int v) {
            if (done >= KEPT) {
                dropOldest();
            }
            number[done] = whose;
            what[done] = which;
            before[done] = office.numbers[which][whose];
            behind[done] = v;
            done++;
            undone = 0;
            office.numbers[which][whose] = v;
        }

        int takeBack() {
            done--;
            undone++;
            office.numbers[what[done]][number[done]] = before[done];
            return done;
        }

        int makeAgain() {
            office.numbers[what[done]][number[done]] = behind[done];
            done++;
            undone--;
            return undone;
        }

        private void dropOldest() {
            System.arraycopy(number, 1, number, 0, KEPT - 1);
            System.arraycopy(what, 1, what, 0, KEPT - 1);
            System.arraycopy(before, 1, before, 0, KEPT - 1);
            System.arraycopy(behind, 1, behind, 0, KEPT - 1);
            done--;
        }
    }

    /** The signs of a law as steps for a machine with a stack. */
    private static final class Steps {
        /** Below NAME a step is a number to push, below OPERATOR a name, else the operator's sign. */
        static final int NAME = 10000, OPERATOR = 20000;
        static final int GUARD = OPERATOR + '?', END = OPERATOR + ';';
        /** Stands for a minus ahead of an operand, since '-' is the one between two. */
        static final int NEGATIVE = '~';
        static final String NAMES = "lhskmc";
        static final int LIKED = 0, HAND = 1, SHY = 2, KNOWERS = 3, STAMP = 4, CARD = 5;
        /** Each byte of the tape makes one step at most, and the end of the tape one more. */
        static final int MOST = Parser.TAPE + 1;
    }

    /** Reads the tape byte by byte, so that the first byte with which no text goes on is refused at once. */
    private static final class Parser {
        static final int TAPE = 120;
        private static final int OPEN = 6, DIGITS = 4, COMPARISON = 3;

        private final int[] tape = new int[TAPE];
        int tapeSize;
        final int[] steps = new int[Steps.MOST];
        int size;
        /** Signs that wait for what stands behind them. */
        private final int[] waiting = new int[Steps.MOST];
        private int waits;
        private int open;
        private int brackets;
        private boolean wantsOperand;
        private boolean guarded;
        private int digits;
        private int numberStep;

        int takeLetter(int letter) {
            tape[tapeSize] = letter;
            tapeSize++;
            return tapeSize;
        }

        /** The fault's place; -1: there is none. The tape is empty then. */
        int parseTape() {
            int length = tapeSize;
            tapeSize = 0;
            begin();
            for (int place = 0; place < length; place++) {
                if (!takes(tape[place])) {
                    return place;
                }
            }
            if (wantsOperand || brackets > 0) {
                return length;
            }
            endsExpression(Steps.END, false);
            return -1;
        }

        private void begin() {
            size = 0;
            waits = 0;
            open = 0;
            brackets = 0;
            wantsOperand = true;
            guarded = false;
            digits = 0;
        }

        private boolean takes(int letter) {
            boolean digit = letter >= '0' && letter <= '9';
            if (digit && digits > 0 && digits < DIGITS) {
                steps[numberStep] = steps[numberStep] * 10 + letter - '0';
                digits++;
                return true;
            }
            digits = 0;
            if (!wantsOperand) {
                return takesBehindOperand(letter);
            }
            return digit ? beginsNumber(letter) : takesAsOperand(letter);
        }

        private boolean beginsNumber(int letter) {
            numberStep = size;
            digits = 1;
            emit(letter - '0');
            endOperand();
            return true;
        }

        private boolean takesAsOperand(int letter) {
            int name = Steps.NAMES.indexOf((char) letter);
            if (name >= 0) {
                emit(Steps.NAME + name);
                endOperand();
                return true;
            }
            if (open >= OPEN || letter != '(' && letter != '!' && letter != '-') {
                return false;
            }
            open++;
            if (letter == '(') {
                brackets++;
            }
            await(letter == '-' ? Steps.NEGATIVE : letter);
            return true;
        }

        private boolean takesBehindOperand(int letter) {
            switch (letter) {
                case ')':
                    return closesBracket();
                case '?':
                    return !guarded && endsExpression(Steps.GUARD, true);
                case ';':
                    return endsExpression(Steps.END, false);
                default:
                    return takesBetween(letter);
            }
        }

        private boolean closesBracket() {
            if (brackets == 0) {
                return false;
            }
            emitWaiting(1);
            waits--;
            brackets--;
            open--;
            endOperand();
            return true;
        }

        private boolean endsExpression(int step, boolean guardedThen) {
            if (brackets > 0) {
                return false;
            }
            emitWaiting(1);
            emit(step);
            guarded = guardedThen;
            wantsOperand = true;
            return true;
        }

        private boolean takesBetween(int letter) {
            int rank = rankOf(letter);
            if (rank == 0) {
                return false;
            }
            emitWaiting(rank == COMPARISON ? rank + 1 : rank);
            if (rank == COMPARISON && waits > 0 && rankOf(waiting[waits - 1]) == COMPARISON) {
                return false;
            }
            await(letter);
            wantsOperand = true;
            return true;
        }

        private void endOperand() {
            wantsOperand = false;
            while (waits > 0 && (waiting[waits - 1] == '!' || waiting[waits - 1] == Steps.NEGATIVE)) {
                waits--;
                open--;
                emit(Steps.OPERATOR + waiting[waits]);
            }
        }

        /** An open bracket has no rank, so it stays. */
        private void emitWaiting(int leastRank) {
            while (waits > 0 && rankOf(waiting[waits - 1]) >= leastRank) {
                waits--;
                emit(Steps.OPERATOR + waiting[waits]);
            }
        }

        private int rankOf(int sign) {
            switch (sign) {
                case '|':
                    return 1;
                case '&':
                    return 2;
                case '<':
                case '=':
                case '>':
                    return COMPARISON;
                case '+':
                case '-':
                    return 4;
                case '*':
                case '/':
                case '%':
                    return 5;
                default:
                    return 0;
            }
        }

        private void await(int sign) {
            if (waits < waiting.length) {
                waiting[waits] = sign;
                waits++;
            }
        }

        private void emit(int step) {
            if (size < steps.length) {
                steps[size] = step;
                size++;
            }
        }
    }

    /** The law that was last read from the tape, if there is one. */
    private static final class Law {
        private final int[] steps = new int[Steps.MOST];
        private int size;
        private final int[] stack = new int[Steps.MOST];

        void adopt(int[] newSteps, int newSize) {
            size = newSize;
            System.arraycopy(newSteps, 0, steps, 0, newSize);
        }

        boolean isTold() {
            return size > 0;
        }

        /** A line's value alone lies on the stack where its guard or its end comes. */
        int valueFor(int[] names) {
            int height = 0;
            boolean skipping = false;
            for (int i = 0; i < size; i++) {
                int step = steps[i];
                if (skipping) {
                    skipping = step != Steps.END;
                } else if (step == Steps.END) {
                    return stack[0];
                } else if (step == Steps.GUARD) {
                    skipping = stack[0] == 0;
                    height = 0;
                } else if (step < Steps.OPERATOR) {
                    stack[height] = step < Steps.NAME ? step : names[step - Steps.NAME];
                    height++;
                } else {
                    int left = Math.max(0, height - operandsOf(step));
                    stack[left] = worked(step - Steps.OPERATOR, stack[left], stack[Math.max(left, height - 1)]);
                    height = left + 1;
                }
            }
            return 0;
        }

        private int operandsOf(int step) {
            return step == Steps.OPERATOR + '!' || step == Steps.OPERATOR + Steps.NEGATIVE ? 1 : 2;
        }

        private int worked(int sign, int left, int right) {
            switch (sign) {
                case '!':
                    return right == 0 ? 1 : 0;
                case Steps.NEGATIVE:
                    return -right;
                case '|':
                    return left != 0 || right != 0 ? 1 : 0;
                case '&':
                    return left != 0 && right != 0 ? 1 : 0;
                case '<':
                    return left < right ? 1 : 0;
                case '=':
                    return left == right ? 1 : 0;
                case '>':
                    return left > right ? 1 : 0;
                case '+':
                    return left + right;
                case '-':
                    return left - right;
                case '*':
                    return left * right;
                case '/':
                    return right == 0 ? 0 : left / right;
                case '%':
                    return right == 0 ? 0 : left % right;
                default:
                    return 0;
            }
        }
    }

    /** What a card counts for whom, and what follows for one card or for a set of them. */
    private static final class Thought {
        private final Office office;
        private final Law law;
        private final int[] names = new int[Steps.NAMES.length()];
        /** What the card that was weighed last counts for each of the people. */
        final int[] weights = new int[Office.MOST_PEOPLE];
        private final int[] could = new int[Office.MOST_CARDS];
        private final int[] ways = new int[1 << Office.MOST_PEOPLE];

        Thought(Office office, Law law) {
            this.office = office;
            this.law = law;
        }

        /** What the card counts for all. */
        int weigh(int card) {
            int secret = office.numbers[Office.SECRET][card];
            names[Steps.KNOWERS] = secret < 0 ? 0 : Integer.bitCount(office.whoKnows(secret));
            names[Steps.STAMP] = office.numbers[Office.STAMP][card];
            names[Steps.CARD] = card;
            int who = office.whoCouldWithSecret(card, secret);
            int all = 0;
            for (int one = 0; one < office.people; one++) {
                weights[one] = (who >> one & 1) == 0 ? 0 : countFor(card, one);
                all += weights[one];
            }
            return all;
        }

        private int countFor(int card, int one) {
            names[Steps.LIKED] = office.likes(one, office.numbers[Office.TO][card]) ? 1 : 0;
            names[Steps.HAND] = likenessOfHand(one, card);
            names[Steps.SHY] = office.numbers[Office.SHY][one];
            int value = law.isTold() ? law.valueFor(names) : valueWithoutLaw();
            return Math.max(0, Math.min(99, value));
        }

        private int likenessOfHand(int one, int card) {
            int shown = office.numbers[Office.SHOWN][card];
            if (shown < 0) {
                return 1;
            }
            return shown == office.numbers[Office.HAND][one] ? 2 : 0;
        }

        private int valueWithoutLaw() {
            int feigns = office.numbers[Office.FEIGNS][0];
            int byHand = names[Steps.HAND] == 2 ? 12 - feigns : names[Steps.HAND] == 1 ? 12 : feigns;
            return (1 + 4 * names[Steps.LIKED]) * byHand;
        }

        /** The likeliest of some people (bits), for a card that counts for one of them. */
        int likeliestOf(int card, int some) {
            weigh(card);
            int best = NOT;
            int most = 0;
            for (int one = 0; one < office.people; one++) {
                if ((some >> one & 1) != 0 && weights[one] > most) {
                    best = one;
                    most = weights[one];
                }
            }
            return best;
        }

        int onlyOne(int card) {
            int best = likeliestOf(card, office.everybody());
            for (int one = 0; one < office.people; one++) {
                if (one != best && weights[one] > 0) {
                    return NOT;
                }
            }
            return best;
        }

        int whoCouldAll(int set) {
            int who = office.everybody();
            for (int card = 0; card < office.cards; card++) {
                if ((set >> card & 1) != 0) {
                    who &= office.whoCould(card);
                }
            }
            return who;
        }

        int fewestHands(int set) {
            for (int card = 0; card < office.cards; card++) {
                could[card] = office.whoCould(card);
            }
            int best = NOT;
            for (int who = 0; who <= office.everybody(); who++) {
                boolean fewer = best == NOT || Integer.bitCount(who) < Integer.bitCount(best);
                if (fewer && couldAllBeBy(set, who)) {
                    best = who;
                }
            }
            return best;
        }

        private boolean couldAllBeBy(int set, int who) {
            for (int card = 0; card < office.cards; card++) {
                if ((set >> card & 1) != 0 && (could[card] & who) == 0) {
                    return false;
                }
            }
            return true;
        }

        /** Card by card: ways[who] is in how many ways the cards so far are by just these people. */
        int waysByUnlike(int set) {
            Arrays.fill(ways, 0);
            ways[0] = 1;
            int sum = 1;
            for (int card = 0; card < office.cards; card++) {
                if ((set >> card & 1) != 0) {
                    sum = addWriter(office.whoCould(card));
                }
            }
            return sum;
        }

        /** Goes downward, so that what is read was not yet written for this card. */
        private int addWriter(int whoCould) {
            int sum = 0;
            for (int who = office.everybody(); who >= 0; who--) {
                int here = 0;
                for (int one = 0; one < office.people; one++) {
                    if ((who & whoCould & 1 << one) != 0) {
                        here += ways[who ^ 1 << one];
                    }
                }
                ways[who] = here;
                sum += here;
            }
            return sum;
        }

        /** A part (0 above, 1 below the line) of a fraction; of nothing by nothing: of 0 by 1. */
        int lowestTerms(int top, int below, int part) {
            int divisor = greatestDivisor(top, below);
            if (below == 0 || divisor == 0) {
                return part;
            }
            return (part == 0 ? top : below) / divisor;
        }

        private int greatestDivisor(int a, int b) {
            int large = a;
            int small = b;
            for (int i = 0; i < 64 && small != 0; i++) {
                int rest = large % small;
                large = small;
                small = rest;
            }
            return large;
        }
    }

    /** What one may do about a card: ask, thank, tell, write, hope, draw. */
    private static final class Plans {
        private static final int QUESTIONS = 13;

        private final Office office;
        private final Thought thought;
        private final int[] times = new int[Office.MOST_PEOPLE];
        /** The way that was sought last, and its fraction. */
        int way;
        int wayTop;
        int wayBelow;

        Plans(Office office, Thought thought) {
            this.office = office;
            this.thought = thought;
        }

        int bestQuestion(int card, int what) {
            int all = thought.weigh(card);
            int best = 0;
            int least = all + 1;
            for (int question = 0; question < QUESTIONS; question++) {
                int yes = sumOfYes(question, card);
                int greater = Math.max(yes, all - yes);
                if (greater < least) {
                    least = greater;
                    best = question;
                }
            }
            return what == 0 ? best : least;
        }

        private int sumOfYes(int question, int card) {
            int sum = 0;
            for (int one = 0; one < office.people; one++) {
                if (saysYes(question, one, card)) {
                    sum += thought.weights[one];
                }
            }
            return sum;
        }

        private boolean saysYes(int question, int one, int card) {
            if (question < 8) {
                return office.knows(one, question);
            }
            if (question < 12) {
                return office.numbers[Office.HAND][one] == question - 8;
            }
            return office.likes(one, office.numbers[Office.TO][card]);
        }

        /** In thousandths, for the card that was weighed last. */
        int worthOfThanking(int one, int all) {
            if (all == 0) {
                return 0;
            }
            int right = thought.weights[one];
            int gain = office.numbers[Office.GAIN][0] * right;
            int loss = office.numbers[Office.LOSS][0] * (all - right);
            return 1000 * (gain - loss) / all;
        }

        int whomToThank(int card) {
            int all = thought.weigh(card);
            int best = NOT;
            int most = 0;
            for (int one = 0; one < office.people; one++) {
                int here = worthOfThanking(one, all);
                if (here > most) {
                    most = here;
                    best = one;
                }
            }
            return best;
        }

        int tellingSecret(int card, int what) {
            int best = NOT;
            int fewest = NOT;
            for (int secret = 0; secret < Office.SECRETS; secret++) {
                int left = Integer.bitCount(office.whoCouldWithSecret(card, secret));
                if (left > 0 && (fewest == NOT || left < fewest)) {
                    fewest = left;
                    best = secret;
                }
            }
            return what == 0 ? best : fewest;
        }

        void seekWay(int one, int to, int minute, int how) {
            way = NOT;
            wayTop = 0;
            wayBelow = 1;
            for (int secret = 0; secret <= Office.SECRETS; secret++) {
                for (int shown = 0; shown <= 4; shown++) {
                    for (int stamp = 0; stamp <= 1; stamp++) {
                        int what = 100 * secret + 10 * shown + stamp;
                        if (office.canWriteSo(one, what, minute)) {
                            office.layCard(to, minute, what);
                            weighWay(one, what, how);
                        }
                    }
                }
            }
        }

        private void weighWay(int one, int what, int how) {
            int all = thought.weigh(office.cards);
            if (all == 0) {
                return;
            }
            int here = thought.weights[one];
            int more = here * wayBelow - wayTop * all;
            if (way == NOT || (how == 0 ? more > 0 : more < 0)) {
                way = what;
                wayTop = here;
                wayBelow = all;
            }
        }

        int hopeOfReceiver(int card, int what) {
            int liked = office.numbers[Office.LIKES][office.numbers[Office.TO][card]];
            int hoped = thought.likeliestOf(card, liked);
            if (what == 0 || hoped == NOT) {
                return what == 0 ? hoped : 0;
            }
            int likeliest = thought.likeliestOf(card, office.everybody());
            int all = thought.weigh(card);
            if (likeliest == NOT || all == 0) {
                return 0;
            }
            return 1000000 * (thought.weights[hoped] - thought.weights[likeliest]) / all;
        }

        int timesDrawn(int card, int seed, int n, int one) {
            Arrays.fill(times, 0);
            int all = thought.weigh(card);
            int z = seed;
            int most = 0;
            for (int i = 0; i < n && all > 0; i++) {
                z = z * 1103515245 + 12345;
                int who = whoIsAt((z >>> 8) % all);
                times[who]++;
                most = Math.max(most, times[who]);
            }
            return one < 0 ? most : times[one];
        }

        private int whoIsAt(int point) {
            int rest = point;
            for (int one = 0; one < office.people; one++) {
                rest -= thought.weights[one];
                if (rest < 0) {
                    return one;
                }
            }
            return 0;
        }
    }

    /** What rows on shelves tell: people that come, looks, letters. */
    private static final class Rows {
        private final Office office;
        private final Thought thought;
        final int[] tally = new int[Office.MOST_PEOPLE];

        Rows(Office office, Thought thought) {
            this.office = office;
            this.thought = thought;
        }

        /** Any place may be asked for: where the row has none, below 0 too, it ends at once. */
        int peopleCome(Shelf from, int i, int n) {
            int came = 0;
            int place = i;
            while (came < n && place >= 0 && place <= from.size - 3 && comesFrom(from, place)) {
                came++;
                place += 3;
            }
            return came;
        }

        private boolean comesFrom(Shelf from, int place) {
            int hand = (int) from.row[place];
            int likes = (int) from.row[place + 1];
            int knows = (int) from.row[place + 2];
            boolean asSaid = office.fits(Office.HAND, hand)
                && office.fits(Office.LIKES, likes)
                && office.fits(Office.KNOWS, knows);
            if (!asSaid || office.people >= Office.MOST_PEOPLE) {
                return false;
            }
            office.addPerson(hand, likes, knows);
            return true;
        }

        int firstLookFromOutside(Shelf from) {
            for (int minute = 0; minute < from.size; minute++) {
                int one = (int) from.row[minute];
                if (office.isPerson(one) && !office.isIn(one, minute)) {
                    return minute;
                }
            }
            return NOT;
        }

        /** Looks from a minute on, less those ahead of it. */
        void tallyLooks(Shelf from, int m) {
            Arrays.fill(tally, 0);
            for (int minute = 0; minute < from.size; minute++) {
                int one = (int) from.row[minute];
                if (office.isPerson(one)) {
                    tally[one] += minute < m ? -1 : 1;
                }
            }
        }

        int mostTallied() {
            int best = NOT;
            int most = 0;
            for (int one = 0; one < office.people; one++) {
                if (tally[one] > most) {
                    most = tally[one];
                    best = one;
                }
            }
            return best;
        }

        int firstWrongLetter(Shelf from) {
            for (int i = 0; i < from.size; i += 2) {
                if (i + 1 >= from.size || !canBe((int) from.row[i], (int) from.row[i + 1])) {
                    return i / 2;
                }
            }
            return NOT;
        }

        /** By somebody who is not known a card can be only if there is one who could. */
        private boolean canBe(int card, int one) {
            if (!office.isCard(card)) {
                return false;
            }
            if (one == -1) {
                return office.whoCould(card) != 0;
            }
            return office.isPerson(one) && (office.whoCould(card) >> one & 1) != 0;
        }

        /** For letters that all can be. */
        long lettersFilled(Shelf from, int what) {
            long product = 1;
            for (int i = 0; i + 1 < from.size; i += 2) {
                int card = (int) from.row[i];
                int one = (int) from.row[i + 1];
                product *= what == 0 ? waysToFill(card, one) : countsTogether(card, one);
            }
            return product;
        }

        private int waysToFill(int card, int one) {
            return one == -1 ? Integer.bitCount(office.whoCould(card)) : 1;
        }

        private int countsTogether(int card, int one) {
            int all = thought.weigh(card);
            return one == -1 ? all : thought.weights[one];
        }
    }

    /** What is done, minute by minute, and the image that is kept of it. */
    private static final class Deeds {
        private final Office office;
        int now;
        int sent;
        int right;
        int wrong;
        boolean imageKept;
        private int nowThen;
        private int sentThen;
        private int rightThen;
        private int wrongThen;
        private final int[] thankedThen = new int[Office.MOST_CARDS];

        Deeds(Office office) {
            this.office = office;
        }

        int letMinutesPass(int n) {
            now += n;
            return now;
        }

        int sendCard(int one, int to, int what) {
            int card = office.addCard(to, now, what);
            office.numbers[Office.SENDER][card] = one;
            sent++;
            return card;
        }

        boolean mayBeThanked(int card) {
            return office.numbers[Office.SENDER][card] != NOT && office.numbers[Office.THANKED][card] == NOT;
        }

        int thankOne(int card, int one) {
            office.numbers[Office.THANKED][card] = one;
            if (office.numbers[Office.SENDER][card] == one) {
                right++;
                return 1;
            }
            wrong++;
            return 0;
        }

        int keepImage() {
            imageKept = true;
            nowThen = now;
            sentThen = sent;
            rightThen = right;
            wrongThen = wrong;
            System.arraycopy(office.numbers[Office.THANKED], 0, thankedThen, 0, Office.MOST_CARDS);
            return now;
        }

        /** Cards that were not there yet had nobody thanked, so laying all places back frees them too. */
        int layImageBack() {
            now = nowThen;
            sent = sentThen;
            right = rightThen;
            wrong = wrongThen;
            System.arraycopy(thankedThen, 0, office.numbers[Office.THANKED], 0, Office.MOST_CARDS);
            return now;
        }
    }

    /** Looks of several kinds, and the trace of the bodies that ran in the latest act. */
    private static final class Bodies {
        static final int MOST = 50;
        private static final int KINDS = 8, ACTS = 4, TRACED = 24, DEEPEST = 40;
        private static final int LOOKS = 0, WRITES = 1, HIDES = 2, TELLS = 3;
        private static final int CARD = 1, HAND = 2, SCENT = 3, JOKE = 4, HERON = 5, STAMP = 6, OWL = 7;
        private static final int[] ABOVE = {-1, 0, 0, 2, 1, 3, 0, 4};
        /** Each kind's own bodies, four a kind, one an act; 0: none. What LOOK's interfaces bring is LOOK's. */
        private static final int[] OWN = {
            1, 10, 11, 2,
            20, 0, 0, 0,
            0, 30, 0, 0,
            0, 41, 40, 0,
            0, 0, 50, 0,
            0, 0, 0, 60,
            70, 0, 0, 0,
            0, 80, 0, 81
        };

        final int[] kinds = new int[MOST];
        int size;
        final int[] trace = new int[TRACED];
        int ran;
        private int number;

        boolean isKind(int kind) {
            return kind >= 0 && kind < KINDS;
        }

        boolean isBody(int body) {
            return body >= 0 && body < size;
        }

        int add(int kind) {
            int body = size;
            kinds[body] = kind;
            size++;
            return body;
        }

        boolean isUnder(int body, int kind) {
            int here = isBody(body) ? kinds[body] : -1;
            for (int i = 0; i < KINDS && here >= 0; i++) {
                if (here == kind) {
                    return true;
                }
                here = ABOVE[here];
            }
            return false;
        }

        int traced() {
            return Math.min(ran, TRACED);
        }

        int perform(int body, int which, int x) {
            ran = 0;
            if (!isBody(body) || which < 0 || which >= ACTS) {
                return 0;
            }
            number = body;
            return own(which, x, 0);
        }

        private int own(int which, int x, int depth) {
            return run(bodyFrom(kinds[number], which), x, depth + 1);
        }

        private int above(int kind, int which, int x, int depth) {
            return run(bodyFrom(ABOVE[kind], which), x, depth + 1);
        }

        private int bodyFrom(int kind, int which) {
            int here = kind;
            for (int i = 0; i < KINDS && here >= 0; i++) {
                int found = OWN[here * ACTS + which];
                if (found != 0) {
                    return found;
                }
                here = ABOVE[here];
            }
            return 0;
        }

        private int run(int found, int x, int depth) {
            if (depth > DEEPEST) {
                return 0;
            }
            if (ran < TRACED) {
                trace[ran] = found;
            }
            ran++;
            switch (found) {
                case 1:
                    return x + number;
                case 2:
                    return own(WRITES, x, depth) - own(HIDES, 1, depth);
                case 10:
                    return own(LOOKS, x, depth) * 2;
                case 11:
                    return x ^ number;
                case 20:
                    return above(CARD, LOOKS, x, depth) + 3;
                case 30:
                    return -above(HAND, WRITES, x, depth);
                case 40:
                    return above(SCENT, HIDES, x, depth) * 3;
                case 41:
                    return above(SCENT, WRITES, x + 1, depth);
                case 50:
                    return above(JOKE, HIDES, x, depth) - own(LOOKS, 2, depth);
                case 60:
                    return above(HERON, TELLS, x, depth) ^ 5;
                case 70:
                    return above(STAMP, LOOKS, x, depth) * 2;
                case 80:
                    return above(OWL, WRITES, x, depth) + own(HIDES, 2, depth);
                case 81:
                    return above(OWL, TELLS, x, depth) - 1;
                default:
                    return 0;
            }
        }
    }

    /** A shelf: nothing, a look, or a row, whose elements are kept as longs whatever their sort. */
    private static final class Shelf {
        static final int NOTHING = 0, LOOK = 1, ROW = 2;
        static final int BYTES = 0, SHORTS = 1, INTS = 2, BOOLEANS = 4;
        static final int MOST = 60;

        int holds;
        int body;
        int sort;
        int size;
        final long[] row = new long[MOST];

        void holdLook(int look) {
            holds = look < 0 ? NOTHING : LOOK;
            body = look;
        }

        void holdRow(int sortOfRow, int n) {
            holds = ROW;
            sort = sortOfRow;
            size = n;
            Arrays.fill(row, 0);
        }

        boolean isRowOf(int sortOfRow) {
            return holds == ROW && sort == sortOfRow;
        }

        int refusalOfRow(int sortOfRow) {
            if (holds == NOTHING) {
                return NOTHING_THERE;
            }
            return isRowOf(sortOfRow) ? 0 : OTHER_KIND;
        }

        int refusalOfPlace(int i) {
            if (holds != ROW) {
                return holds == NOTHING ? NOTHING_THERE : OTHER_KIND;
            }
            return i >= 0 && i < size ? 0 : NO_PLACE;
        }

        /** Takes from the size, not to the place, since a sum of two ints may wrap. */
        boolean hasPlaces(int i, int n) {
            return i >= 0 && n >= 0 && i <= size && n <= size - i;
        }

        long lowestBits(long v) {
            switch (sort) {
                case BYTES:
                    return (byte) v;
                case SHORTS:
                    return (short) v;
                case INTS:
                    return (int) v;
                case BOOLEANS:
                    return v != 0 ? 1 : 0;
                default:
                    return v;
            }
        }
    }
}
