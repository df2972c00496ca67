/**
 * A register of who controls whom.
 *
 * <p>Nothing is made after the constructor: every row that a call needs is kept and used again,
 * because all calls of a run share one room.
 */
public final class ControlRegister {
    public static final int UNKNOWN = -1, OUTSIDE = -2, STATE = -3, FULL = -4, NO = -5, NONE = -6;

    private static final int PERSONS = 4;
    private static final int FIRMS = 5;
    private static final int CONTROLLERS = PERSONS + FIRMS;
    private static final int REST = CONTROLLERS;
    private static final int HOLDERS = REST + 1;
    /** Those that can own in the end: the PERSONS, and the REST behind them. */
    private static final int OWNING_SIDES = PERSONS + 1;

    private static final int WHOLE = 100;
    private static final int LAST_DAY = 999;
    private static final int MOST_DEALS = 40;
    private static final int MOST_EVENTS = MOST_DEALS * CONTROLLERS * FIRMS;
    private static final int NO_DEAL = -1;

    private static final int SHARES_SOLD = 0;
    private static final int VOTES_SOLD = 1;
    private static final int VETO_GIVEN = 2;
    private static final int VETO_TAKEN = 3;

    private final Book book = new Book();
    private final Book firstImage = new Book();
    private final Book secondImage = new Book();
    private int imagesKept;

    /** The end of the DAY that is looked at; true only while upToDate. */
    private final Holdings now = new Holdings();
    private final Control control = new Control();
    private final Stakes stakes = new Stakes();
    private final Reach reach = new Reach();
    private boolean upToDate;

    /** All DAYS; true only while traced. */
    private final Timeline timeline = new Timeline();
    private boolean traced;

    /** What a call tries out; of no meaning between calls. */
    private final Holdings trial = new Holdings();
    private final Control trialControl = new Control();

    public ControlRegister() {
    }

    // ---- 1 deals

    public int sellShares(int day, int from, int to, int firm, int n) {
        return sell(SHARES_SOLD, day, from, to, firm, n);
    }

    public int sellVotes(int day, int from, int to, int firm, int n) {
        return sell(VOTES_SOLD, day, from, to, firm, n);
    }

    public int veto(int day, int holder, int firm, int on) {
        if (!isController(holder) || !isFirm(firm)) {
            return UNKNOWN;
        }
        if (!isDay(day) || !isYesOrNo(on)) {
            return OUTSIDE;
        }
        return enter(day, on == 1 ? VETO_GIVEN : VETO_TAKEN, firm, NONE, holder, 0);
    }

    public int cancel(int deal) {
        if (!isDeal(deal)) {
            return UNKNOWN;
        }
        if (!isSoundWithout(deal)) {
            return NO;
        }
        book.strike(deal);
        allIsChanged();
        return book.size;
    }

    public int told(int deal, int what) {
        if (!isDeal(deal)) {
            return UNKNOWN;
        }
        switch (what) {
            case 0: return book.day[deal];
            case 1: return book.firm[deal];
            case 2: return book.kind[deal];
            case 3: return book.from[deal];
            case 4: return book.to[deal];
            case 5: return book.amount[deal];
            case 6: return book.placeOf(deal);
            case 7: return asNumber(book.day[deal] <= book.looked);
            default: return OUTSIDE;
        }
    }

    public int look(int day) {
        if (!isDay(day)) {
            return OUTSIDE;
        }
        int before = book.looked;
        book.looked = day;
        upToDate = false;
        return before;
    }

    public int rule(int what, int n) {
        if (what < 0 || what > 2 || n < 1 || n >= WHOLE) {
            return OUTSIDE;
        }
        int before;
        if (what == 0) {
            before = book.half;
            book.half = n;
        } else if (what == 1) {
            before = book.deemed;
            book.deemed = n;
        } else {
            before = book.owning;
            book.owning = n;
        }
        allIsChanged();
        return before;
    }

    public int holds(int holder, int firm, int what) {
        if (!isHolder(holder) || !isFirm(firm)) {
            return UNKNOWN;
        }
        bringUpToDate();
        switch (what) {
            case 0: return now.shares[firm][holder];
            case 1: return now.votes[firm][holder];
            case 2: return asNumber(has(now.vetoes[firm], holder));
            default: return OUTSIDE;
        }
    }

    // ---- 2 control

    public int controls(int holder) {
        if (!isController(holder)) {
            return UNKNOWN;
        }
        bringUpToDate();
        return control.firmsOf[holder];
    }

    public int how(int holder, int firm, int what) {
        if (!isController(holder) || !isFirm(firm)) {
            return UNKNOWN;
        }
        bringUpToDate();
        switch (what) {
            case 0: return wayOfControl(holder, firm);
            case 1: return control.roundOf[holder][firm];
            case 2: return finalBlock(holder, firm);
            case 3: return control.witnessOf(holder, firm, now, book);
            case 4: return control.chainOf(holder, firm, now, book);
            default: return OUTSIDE;
        }
    }

    public int above(int firm, int what) {
        if (!isFirm(firm)) {
            return UNKNOWN;
        }
        bringUpToDate();
        switch (what) {
            case 0: return control.thoseOver(firm, 0, PERSONS);
            case 1: return control.thoseOver(firm, PERSONS, FIRMS);
            case 2: return now.vetoes[firm];
            case 3: return asNumber(has(control.firmsOf[holderOf(firm)], firm));
            default: return OUTSIDE;
        }
    }

    public int when(int holder, int firm, int is) {
        if (!isController(holder) || !isFirm(firm)) {
            return UNKNOWN;
        }
        if (!isYesOrNo(is)) {
            return OUTSIDE;
        }
        trace();
        return timeline.firstDay(book.looked, holder, firm, is == 1);
    }

    public int fewest(int holder, int firm, int way) {
        if (!isController(holder) || !isFirm(firm)) {
            return UNKNOWN;
        }
        if (!isYesOrNo(way)) {
            return OUTSIDE;
        }
        bringUpToDate();
        return way == 0 ? fewestToSell(holder, firm) : fewestToBuy(holder, firm);
    }

    public int event(int i, int what) {
        if (what < 0 || what > 3) {
            return OUTSIDE;
        }
        trace();
        return timeline.ofEvent(i, what);
    }

    // ---- 3 stakes

    public long stake(int holder, int firm, int what) {
        if (!isPerson(holder) && holder != REST || !isFirm(firm)) {
            return UNKNOWN;
        }
        if (!isYesOrNo(what)) {
            return OUTSIDE;
        }
        bringUpToDate();
        int side = holder == REST ? PERSONS : holder;
        return inLowestTerms(stakes.upper(firm, side), stakes.lower(firm), what);
    }

    public long nobody(int firm, int what) {
        if (!isFirm(firm)) {
            return UNKNOWN;
        }
        if (!isYesOrNo(what)) {
            return OUTSIDE;
        }
        bringUpToDate();
        return inLowestTerms(stakes.upperOfNobody(firm), stakes.lower(firm), what);
    }

    public int ranked(int firm, int i) {
        if (!isFirm(firm)) {
            return UNKNOWN;
        }
        bringUpToDate();
        for (int person = 0; person < PERSONS; person++) {
            if (stakes.upper(firm, person) > 0 && stakes.rankOf(firm, person) == i) {
                return person;
            }
        }
        return NONE;
    }

    public int owners(int firm) {
        if (!isFirm(firm)) {
            return UNKNOWN;
        }
        bringUpToDate();
        return control.thoseOver(firm, 0, PERSONS) | stakes.personsAbove(firm, book.owning);
    }

    public int circle(int firm) {
        if (!isFirm(firm)) {
            return UNKNOWN;
        }
        bringUpToDate();
        return reach.circleOf(firm);
    }

    // ---- 4 images

    public int image(int k) {
        if (!isYesOrNo(k)) {
            return OUTSIDE;
        }
        imageAt(k).copyFrom(book);
        imagesKept |= 1 << k;
        return 1;
    }

    public int restore(int k) {
        if (!isYesOrNo(k)) {
            return OUTSIDE;
        }
        if (!has(imagesKept, k)) {
            return STATE;
        }
        book.copyFrom(imageAt(k));
        allIsChanged();
        return 1;
    }

    public int count(int what) {
        if (what >= 10 && what < 10 + MOST_DEALS) {
            return book.unlikeDay(what - 10);
        }
        switch (what) {
            case 0: return book.size;
            case 1: return book.looked;
            case 2: return book.half;
            case 3: return book.deemed;
            case 4: return book.owning;
            case 5: return book.doneBy(book.looked);
            case 6:
                bringUpToDate();
                return control.mostRounds();
            case 7:
                trace();
                return timeline.eventCount;
            case 8:
                bringUpToDate();
                return stakes.locked;
            case 9: return imagesKept;
            default: return OUTSIDE;
        }
    }

    // ---- behind the calls

    private static boolean isHolder(int holder) {
        return holder >= 0 && holder < HOLDERS;
    }

    private static boolean isPerson(int holder) {
        return holder >= 0 && holder < PERSONS;
    }

    private static boolean isController(int holder) {
        return holder >= 0 && holder < CONTROLLERS;
    }

    private static boolean isFirm(int firm) {
        return firm >= 0 && firm < FIRMS;
    }

    private static boolean isDay(int day) {
        return day >= 0 && day <= LAST_DAY;
    }

    private static boolean isYesOrNo(int number) {
        return number == 0 || number == 1;
    }

    private boolean isDeal(int deal) {
        return deal >= 0 && deal < book.size;
    }

    private static int holderOf(int firm) {
        return PERSONS + firm;
    }

    private static boolean has(int set, int member) {
        return (set >> member & 1) == 1;
    }

    private static int asNumber(boolean yes) {
        return yes ? 1 : 0;
    }

    private Book imageAt(int k) {
        return k == 0 ? firstImage : secondImage;
    }

    private int sell(int kind, int day, int from, int to, int firm, int n) {
        if (!isHolder(from) || !isHolder(to) || !isFirm(firm)) {
            return UNKNOWN;
        }
        if (!isDay(day) || n < 1 || n > WHOLE) {
            return OUTSIDE;
        }
        if (from == to || from == holderOf(firm) || to == holderOf(firm)) {
            return OUTSIDE;
        }
        return enter(day, kind, firm, from, to, n);
    }

    /** NO goes before FULL, so the DEAL is tried even where there is no place for it to stay. */
    private int enter(int day, int kind, int firm, int from, int to, int amount) {
        book.append(day, kind, firm, from, to, amount);
        int refusal = 0;
        if (!isSoundWithout(NO_DEAL)) {
            refusal = NO;
        } else if (book.size > MOST_DEALS) {
            refusal = FULL;
        }
        if (refusal != 0) {
            book.strike(book.size - 1);
            return refusal;
        }
        allIsChanged();
        return book.size;
    }

    private boolean isSoundWithout(int left) {
        trial.beginAgain();
        for (int place = 0; place < book.size; place++) {
            int deal = book.order[place];
            if (deal != left && !trial.carryOut(book, deal)) {
                return false;
            }
        }
        return true;
    }

    private void allIsChanged() {
        upToDate = false;
        traced = false;
    }

    private void bringUpToDate() {
        if (upToDate) {
            return;
        }
        now.beginAgain();
        int done = book.doneBy(book.looked);
        for (int place = 0; place < done; place++) {
            now.carryOut(book, book.order[place]);
        }
        control.workOutAll(now, book);
        stakes.workOut(now);
        reach.workOut(now);
        upToDate = true;
    }

    private void trace() {
        if (traced) {
            return;
        }
        timeline.workOut(book, trial, trialControl);
        traced = true;
    }

    private int finalBlock(int holder, int firm) {
        return now.block(firm, Holdings.allies(holder, control.firmsOf[holder]));
    }

    private int wayOfControl(int holder, int firm) {
        if (!has(control.firmsOf[holder], firm)) {
            return 0;
        }
        return finalBlock(holder, firm) > book.half ? 1 : 2;
    }

    private int fewestToSell(int holder, int firm) {
        int most = now.votes[firm][holder];
        trial.copyFrom(now);
        for (int n = 0; n <= most; n++) {
            if (!wouldControl(holder, firm)) {
                return n;
            }
            Holdings.move(trial.votes[firm], holder, REST, 1);
        }
        return NONE;
    }

    private int fewestToBuy(int holder, int firm) {
        int most = holder == holderOf(firm) ? 0 : now.votes[firm][REST];
        trial.copyFrom(now);
        for (int n = 0; n <= most; n++) {
            if (wouldControl(holder, firm)) {
                return n;
            }
            Holdings.move(trial.votes[firm], REST, holder, 1);
        }
        return NONE;
    }

    private boolean wouldControl(int holder, int firm) {
        trialControl.workOut(holder, trial, book);
        return has(trialControl.firmsOf[holder], firm);
    }

    private static long inLowestTerms(long upper, long lower, int what) {
        long common = commonDivisor(upper, lower);
        if (common == 0) {
            return what;
        }
        return (what == 0 ? upper : lower) / common;
    }

    private static long commonDivisor(long upper, long lower) {
        long divisor = upper;
        long remainder = lower;
        // No two longs need more steps than 92.
        for (int step = 0; step < 100 && remainder != 0; step++) {
            long next = divisor % remainder;
            divisor = remainder;
            remainder = next;
        }
        return divisor;
    }

    /** The DEALS as they were told, the DAY that is looked at and the rules: what an IMAGE keeps. */
    private static final class Book {
        /** One place more than there are DEALS, for the one that is being tried. */
        private static final int PLACES = MOST_DEALS + 1;

        final int[] day = new int[PLACES];
        final int[] kind = new int[PLACES];
        final int[] firm = new int[PLACES];
        final int[] from = new int[PLACES];
        final int[] to = new int[PLACES];
        final int[] amount = new int[PLACES];
        /** The DEALS' numbers as they are DONE. */
        final int[] order = new int[PLACES];
        int size;
        int looked;
        int half = 50;
        int deemed = 30;
        int owning = 25;

        void append(int itsDay, int itsKind, int itsFirm, int giver, int taker, int howMany) {
            if (size >= PLACES) {
                return;
            }
            day[size] = itsDay;
            kind[size] = itsKind;
            firm[size] = itsFirm;
            from[size] = giver;
            to[size] = taker;
            amount[size] = howMany;
            size++;
            arrange();
        }

        void strike(int deal) {
            if (deal < 0 || deal >= size) {
                return;
            }
            closeGap(day, deal);
            closeGap(kind, deal);
            closeGap(firm, deal);
            closeGap(from, deal);
            closeGap(to, deal);
            closeGap(amount, deal);
            size--;
            arrange();
        }

        private void closeGap(int[] row, int gap) {
            System.arraycopy(row, gap + 1, row, gap, size - gap - 1);
        }

        private void arrange() {
            for (int deal = 0; deal < size; deal++) {
                int place = deal;
                while (place > 0 && day[order[place - 1]] > day[deal]) {
                    order[place] = order[place - 1];
                    place--;
                }
                order[place] = deal;
            }
        }

        void copyFrom(Book other) {
            System.arraycopy(other.day, 0, day, 0, PLACES);
            System.arraycopy(other.kind, 0, kind, 0, PLACES);
            System.arraycopy(other.firm, 0, firm, 0, PLACES);
            System.arraycopy(other.from, 0, from, 0, PLACES);
            System.arraycopy(other.to, 0, to, 0, PLACES);
            System.arraycopy(other.amount, 0, amount, 0, PLACES);
            System.arraycopy(other.order, 0, order, 0, PLACES);
            size = other.size;
            looked = other.looked;
            half = other.half;
            deemed = other.deemed;
            owning = other.owning;
        }

        int placeOf(int deal) {
            for (int place = 0; place < size; place++) {
                if (order[place] == deal) {
                    return place;
                }
            }
            return NONE;
        }

        int doneBy(int lastDay) {
            int done = 0;
            for (int deal = 0; deal < size; deal++) {
                done += asNumber(day[deal] <= lastDay);
            }
            return done;
        }

        boolean isLastOfItsDay(int place) {
            return place + 1 >= size || day[order[place + 1]] != day[order[place]];
        }

        int unlikeDay(int i) {
            int seen = 0;
            for (int place = 0; place < size; place++) {
                if (isLastOfItsDay(place)) {
                    if (seen == i) {
                        return day[order[place]];
                    }
                    seen++;
                }
            }
            return NONE;
        }
    }

    /** Who has which SHARES, VOTES and VETOES at one time. */
    private static final class Holdings {
        final int[][] shares = new int[FIRMS][HOLDERS];
        final int[][] votes = new int[FIRMS][HOLDERS];
        /** Sets of HOLDERS. */
        final int[] vetoes = new int[FIRMS];

        void beginAgain() {
            for (int firm = 0; firm < FIRMS; firm++) {
                for (int holder = 0; holder < HOLDERS; holder++) {
                    int atFirst = holder == REST ? WHOLE : 0;
                    shares[firm][holder] = atFirst;
                    votes[firm][holder] = atFirst;
                }
                vetoes[firm] = 0;
            }
        }

        void copyFrom(Holdings other) {
            for (int firm = 0; firm < FIRMS; firm++) {
                System.arraycopy(other.shares[firm], 0, shares[firm], 0, HOLDERS);
                System.arraycopy(other.votes[firm], 0, votes[firm], 0, HOLDERS);
                vetoes[firm] = other.vetoes[firm];
            }
        }

        /** False, with nothing changed, if the giver has not enough. */
        boolean carryOut(Book book, int deal) {
            int firm = book.firm[deal];
            int to = book.to[deal];
            switch (book.kind[deal]) {
                case SHARES_SOLD: return move(shares[firm], book.from[deal], to, book.amount[deal]);
                case VOTES_SOLD: return move(votes[firm], book.from[deal], to, book.amount[deal]);
                case VETO_GIVEN:
                    vetoes[firm] |= 1 << to;
                    return true;
                default:
                    vetoes[firm] &= ~(1 << to);
                    return true;
            }
        }

        static boolean move(int[] row, int from, int to, int n) {
            if (row[from] < n) {
                return false;
            }
            row[from] -= n;
            row[to] += n;
            return true;
        }

        /** The set of HOLDERS that stand with x; as a set it has x once, though x may CONTROL itself. */
        static int allies(int x, int firms) {
            return 1 << x | firms << PERSONS;
        }

        int block(int firm, int allies) {
            int sum = 0;
            for (int holder = 0; holder < CONTROLLERS; holder++) {
                if ((allies & 1 << holder) != 0) {
                    sum += votes[firm][holder];
                }
            }
            return sum;
        }

        /** The REST is passed over: its VOTES stand against nobody. */
        private boolean isMatched(int firm, int allies, int block) {
            for (int holder = 0; holder < CONTROLLERS; holder++) {
                if ((allies & 1 << holder) == 0 && votes[firm][holder] >= block) {
                    return true;
                }
            }
            return false;
        }

        boolean falls(int firm, int x, int bySet, Book rules) {
            int allies = allies(x, bySet);
            if ((vetoes[firm] & ~allies) != 0) {
                return false;
            }
            int block = block(firm, allies);
            if (block > rules.half) {
                return true;
            }
            return block >= rules.deemed && !isMatched(firm, allies, block);
        }

        int sharesHeldBy(int firm, int firms) {
            int sum = 0;
            for (int other = 0; other < FIRMS; other++) {
                if (has(firms, other)) {
                    sum += shares[firm][holderOf(other)];
                }
            }
            return sum;
        }
    }

    /** Who CONTROLS which FIRMS at one time, and since which ROUND. */
    private static final class Control {
        /** Sets of FIRMS. */
        final int[] firmsOf = new int[CONTROLLERS];
        /** NONE where there is no CONTROL. */
        final int[][] roundOf = new int[CONTROLLERS][FIRMS];
        private final int[] rounds = new int[CONTROLLERS];

        void workOutAll(Holdings held, Book rules) {
            for (int x = 0; x < CONTROLLERS; x++) {
                workOut(x, held, rules);
            }
        }

        void workOut(int x, Holdings held, Book rules) {
            firmsOf[x] = 0;
            rounds[x] = 0;
            for (int firm = 0; firm < FIRMS; firm++) {
                roundOf[x][firm] = NONE;
            }
            // Each ROUND but the last gives a FIRM, so there are no more that give one than FIRMS.
            for (int round = 1; round <= FIRMS; round++) {
                int won = newFirms(x, held, rules);
                if (won == 0) {
                    return;
                }
                firmsOf[x] |= won;
                rounds[x] = round;
                for (int firm = 0; firm < FIRMS; firm++) {
                    if (has(won, firm)) {
                        roundOf[x][firm] = round;
                    }
                }
            }
        }

        private int newFirms(int x, Holdings held, Book rules) {
            int won = 0;
            for (int firm = 0; firm < FIRMS; firm++) {
                if (!has(firmsOf[x], firm) && held.falls(firm, x, firmsOf[x], rules)) {
                    won |= 1 << firm;
                }
            }
            return won;
        }

        /** The rising numbers make the least set win among those of as few FIRMS. */
        int witnessOf(int x, int firm, Holdings held, Book rules) {
            if (!has(firmsOf[x], firm)) {
                return NONE;
            }
            int before = firmsBefore(x, roundOf[x][firm]);
            int best = before;
            for (int set = 0; set < before; set++) {
                boolean fits = (set & ~before) == 0 && Integer.bitCount(set) < Integer.bitCount(best);
                if (fits && held.falls(firm, x, set, rules)) {
                    best = set;
                }
            }
            return best;
        }

        private int firmsBefore(int x, int round) {
            int set = 0;
            for (int firm = 0; firm < FIRMS; firm++) {
                if (has(firmsOf[x], firm) && roundOf[x][firm] < round) {
                    set |= 1 << firm;
                }
            }
            return set;
        }

        /** A WITNESS is of earlier ROUNDS alone, so one walk down the ROUNDS finds the whole CHAIN. */
        int chainOf(int x, int firm, Holdings held, Book rules) {
            int chain = witnessOf(x, firm, held, rules);
            for (int round = roundOf[x][firm] - 1; round > 0; round--) {
                for (int link = 0; link < FIRMS; link++) {
                    if (has(chain, link) && roundOf[x][link] == round) {
                        chain |= witnessOf(x, link, held, rules);
                    }
                }
            }
            return chain;
        }

        /** Bit i: the HOLDER that is i behind the first one. */
        int thoseOver(int firm, int first, int howMany) {
            int set = 0;
            for (int i = 0; i < howMany; i++) {
                if (has(firmsOf[first + i], firm)) {
                    set |= 1 << i;
                }
            }
            return set;
        }

        int mostRounds() {
            int most = 0;
            for (int x = 0; x < CONTROLLERS; x++) {
                most = Math.max(most, rounds[x]);
            }
            return most;
        }
    }

    /** CONTROL at the ends of the DAYS of DEALS; on no other DAY anything changes. */
    private static final class Timeline {
        private final int[] days = new int[MOST_DEALS];
        private final int[][] firmsOf = new int[MOST_DEALS][CONTROLLERS];
        private int size;
        /** Each by its place among all that could be, and whether it BEGINS. */
        private final int[] events = new int[MOST_EVENTS];
        int eventCount;

        void workOut(Book book, Holdings held, Control control) {
            size = 0;
            held.beginAgain();
            for (int place = 0; place < book.size && size < MOST_DEALS; place++) {
                int deal = book.order[place];
                held.carryOut(book, deal);
                if (book.isLastOfItsDay(place)) {
                    for (int x = 0; x < CONTROLLERS; x++) {
                        control.workOut(x, held, book);
                        firmsOf[size][x] = control.firmsOf[x];
                    }
                    days[size] = book.day[deal];
                    size++;
                }
            }
            listEvents();
        }

        private void listEvents() {
            eventCount = 0;
            for (int t = 0; t < size; t++) {
                for (int x = 0; x < CONTROLLERS; x++) {
                    for (int firm = 0; firm < FIRMS; firm++) {
                        listEvent(t, x, firm);
                    }
                }
            }
        }

        private void listEvent(int t, int x, int firm) {
            boolean is = isControlled(t, x, firm);
            if (is != isControlled(t - 1, x, firm) && eventCount < MOST_EVENTS) {
                events[eventCount] = ((t * CONTROLLERS + x) * FIRMS + firm) * 2 + asNumber(is);
                eventCount++;
            }
        }

        /** Before the first DAY of DEALS nobody has a VOTE but the REST. */
        private boolean isControlled(int t, int x, int firm) {
            return t >= 0 && has(firmsOf[t][x], firm);
        }

        int ofEvent(int i, int what) {
            if (i < 0 || i >= eventCount) {
                return NONE;
            }
            int place = events[i] / 2;
            switch (what) {
                case 0: return days[place / (FIRMS * CONTROLLERS)];
                case 1: return place / FIRMS % CONTROLLERS;
                case 2: return place % FIRMS;
                default: return events[i] % 2;
            }
        }

        int firstDay(int from, int x, int firm, boolean is) {
            int t = lastBy(from);
            if (isControlled(t, x, firm) == is) {
                return from;
            }
            for (int later = t + 1; later < size; later++) {
                if (isControlled(later, x, firm) == is) {
                    return days[later];
                }
            }
            return NONE;
        }

        private int lastBy(int day) {
            int last = -1;
            for (int t = 0; t < size && days[t] <= day; t++) {
                last = t;
            }
            return last;
        }
    }

    /** The STAKES at one time: all in one FIRM have one lower number, not in lowest terms. */
    private static final class Stakes {
        private static final int COLUMNS = FIRMS + OWNING_SIDES;

        /** A set of FIRMS. */
        int locked;
        /** A row a FIRM: what stands before each FIRM's STAKE, then what each side holds itself. */
        private final long[][] rows = new long[FIRMS][COLUMNS];

        void workOut(Holdings held) {
            locked = lockedFirms(held);
            for (int firm = 0; firm < FIRMS; firm++) {
                writeRow(held, firm);
            }
            solve();
        }

        /** Each pass but the last takes a FIRM away, so there are enough of them. */
        private static int lockedFirms(Holdings held) {
            int set = (1 << FIRMS) - 1;
            for (int pass = 0; pass < FIRMS; pass++) {
                for (int firm = 0; firm < FIRMS; firm++) {
                    if (has(set, firm) && held.sharesHeldBy(firm, set) < WHOLE) {
                        set &= ~(1 << firm);
                    }
                }
            }
            return set;
        }

        /** A LOCKED FIRM's row says that the STAKE is 0, and so it counts for nothing in other rows. */
        private void writeRow(Holdings held, int firm) {
            boolean isLocked = has(locked, firm);
            for (int other = 0; other < FIRMS; other++) {
                boolean counts = !isLocked && !has(locked, other);
                rows[firm][other] = counts ? -held.shares[firm][holderOf(other)] : 0;
            }
            rows[firm][firm] = WHOLE;
            for (int side = 0; side < OWNING_SIDES; side++) {
                int holder = side == PERSONS ? REST : side;
                rows[firm][FIRMS + side] = isLocked ? 0 : held.shares[firm][holder];
            }
        }

        /**
         * Elimination without fractions: each division leaves nothing over, and at the end every
         * FIRM's own number is the determinant. No pivot is 0, because the FIRMS that are not LOCKED
         * all lead to somebody outside. A number after k steps is at most 100 to the power of k + 1,
         * a product at most 100 to the power of 9, and two of these stay well inside a long.
         */
        private void solve() {
            long before = 1;
            for (int pivot = 0; pivot < FIRMS; pivot++) {
                if (before == 0) {
                    return;
                }
                for (int firm = 0; firm < FIRMS; firm++) {
                    if (firm != pivot) {
                        eliminate(firm, pivot, before);
                    }
                }
                before = rows[pivot][pivot];
            }
        }

        private void eliminate(int firm, int pivot, long before) {
            if (before == 0) {
                return;
            }
            long own = rows[pivot][pivot];
            long factor = rows[firm][pivot];
            for (int column = 0; column < COLUMNS; column++) {
                rows[firm][column] = (own * rows[firm][column] - factor * rows[pivot][column]) / before;
            }
        }

        long upper(int firm, int side) {
            return rows[firm][FIRMS + side];
        }

        long lower(int firm) {
            return rows[firm][firm];
        }

        long upperOfNobody(int firm) {
            long left = lower(firm);
            for (int side = 0; side < OWNING_SIDES; side++) {
                left -= upper(firm, side);
            }
            return left;
        }

        int rankOf(int firm, int person) {
            int rank = 0;
            for (int other = 0; other < PERSONS; other++) {
                boolean likeAndBefore = upper(firm, other) == upper(firm, person) && other < person;
                rank += asNumber(likeAndBefore || upper(firm, other) > upper(firm, person));
            }
            return rank;
        }

        int personsAbove(int firm, int owning) {
            int set = 0;
            for (int person = 0; person < PERSONS; person++) {
                if (upper(firm, person) * WHOLE > owning * lower(firm)) {
                    set |= 1 << person;
                }
            }
            return set;
        }
    }

    /** Which FIRMS each FIRM REACHES at one time. */
    private static final class Reach {
        private final int[] reached = new int[FIRMS];

        void workOut(Holdings held) {
            for (int firm = 0; firm < FIRMS; firm++) {
                reached[firm] = firmsWithShareOf(held, firm);
            }
            // By way of each FIRM in turn: after these, every way through any FIRMS is in.
            for (int way = 0; way < FIRMS; way++) {
                for (int firm = 0; firm < FIRMS; firm++) {
                    if (has(reached[firm], way)) {
                        reached[firm] |= reached[way];
                    }
                }
            }
        }

        private static int firmsWithShareOf(Holdings held, int holdingFirm) {
            int set = 0;
            for (int firm = 0; firm < FIRMS; firm++) {
                if (held.shares[firm][holderOf(holdingFirm)] > 0) {
                    set |= 1 << firm;
                }
            }
            return set;
        }

        int circleOf(int firm) {
            int set = 0;
            for (int other = 0; other < FIRMS; other++) {
                if (has(reached[firm], other) && has(reached[other], firm)) {
                    set |= 1 << other;
                }
            }
            return set;
        }
    }
}
