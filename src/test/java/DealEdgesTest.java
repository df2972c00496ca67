/** Promises 1 to 9 and the document's section 1 at their edges: a method for each sentence that names one. */
public final class DealEdgesTest {
    private static final int UNKNOWN = Run.UNKNOWN, OUTSIDE = Run.OUTSIDE, STATE = Run.STATE, FULL = Run.FULL,
        NO = Run.NO, NONE = Run.NONE, REST = Run.REST;
    private static final int SHARES = 0, VOTES = 1, VETO = 2;

    private final Check check = new Check();

    private Run sentence(String words) {
        return new Run(check, words);
    }

    public static void main(String[] args) {
        DealEdgesTest t = new DealEdgesTest();
        t.newObject();
        t.atFirstTheRestHoldsAll();
        for (int kind = SHARES; kind <= VOTES; kind++) {
            String call = kind == SHARES ? "sellShares" : "sellVotes";
            t.sell(kind, call);
            t.sound(kind, call);
            t.full(call);
        }
        t.sharesAndVotesAreApart();
        t.veto();
        t.cancel();
        t.told();
        t.look();
        t.rule();
        t.holds();
        t.check.end();
    }

    // ---- promise 1 and what holds at first

    private void newObject() {
        Run r = sentence("1: No DEAL");
        r.gives(0, "count", 0);
        r.gives(0, "count", 5);
        r.keeps(UNKNOWN, "told", 0, 0);
        r.keeps(UNKNOWN, "cancel", 0);
        r.gives(NONE, "count", 10);
        r.gives(NONE, "count", 49);
        r.gives(0, "count", 7);

        r = sentence("1: HALF 50, DEEMED 30, OWNING 25; DAY 0 is looked at");
        r.gives(50, "rule", 0, 50);
        r.gives(30, "rule", 1, 30);
        r.gives(25, "rule", 2, 25);
        r.gives(0, "look", 0);

        r = sentence("1: no IMAGE is kept");
        r.gives(0, "count", 9);
        r.keeps(STATE, "restore", 0);
        r.keeps(STATE, "restore", 1);

        sentence("1: an object knows nothing of another one").gives(1, "sellVotes", 0, REST, 0, 0, 60);
        sentence("1: an object knows nothing of another one").gives(0, "controls", 0);
    }

    private void atFirstTheRestHoldsAll() {
        for (int firm = 0; firm < 5; firm++) {
            Run r = sentence("Terms 1: 100 SHARES and 100 VOTES; at first the REST holds them all, and nobody has a VETO");
            for (int holder = 0; holder < 10; holder++) {
                r.gives(holder == REST ? 100 : 0, "holds", holder, firm, SHARES);
                r.gives(holder == REST ? 100 : 0, "holds", holder, firm, VOTES);
                r.gives(0, "holds", holder, firm, VETO);
            }
            r.gives(0, "above", firm, 2);
        }
    }

    // ---- promises 2 and 3

    private void sell(int kind, String call) {
        sellFrom(kind, call);
        sellTo(kind, call);
        sellFirm(kind, call);
        sellDay(kind, call);
        sellAmount(kind, call);
        sellToOneself(kind, call);
        sellAndTheFirmItself(kind, call);
        sellRefusedInOrder(call);
    }

    private void sellFrom(int kind, String call) {
        Run r = sentence(call + ": UNKNOWN: from (0 to 9)");
        r.gives(1, call, 0, REST, 0, 1, 2);
        r.keepsBeyond(UNKNOWN, 0, 9, 1, call, 0, 0, 1, 1, 1);
        r.gives(2, call, 0, 0, REST, 1, 1);
        r.gives(3, call, 0, REST, 8, 1, 1);
        r.gives(4, call, 0, 8, REST, 1, 1);
        r.gives(99, "holds", REST, 1, kind);
        for (int holder = 0; holder < 9; holder++) {
            Run none = sentence(call + ": each HOLDER is known as from");
            none.keeps(holder == 4 ? OUTSIDE : NO, call, 0, holder, REST, 0, 1);
        }
    }

    private void sellTo(int kind, String call) {
        Run r = sentence(call + ": UNKNOWN: to (0 to 9)");
        r.keepsBeyond(UNKNOWN, 0, 9, 2, call, 0, REST, 0, 1, 1);
        int deals = 0;
        for (int holder = 0; holder < 9; holder++) {
            if (holder != 8) {
                deals++;
                r.gives(deals, call, 0, REST, holder, 4, 1);
                r.gives(1, "holds", holder, 4, kind);
            }
        }
        r.gives(92, "holds", REST, 4, kind);
        r.gives(deals + 1, call, 0, 0, REST, 4, 1);
        r.gives(93, "holds", REST, 4, kind);
    }

    private void sellFirm(int kind, String call) {
        Run r = sentence(call + ": UNKNOWN: the FIRM (0 to 4)");
        r.keepsBeyond(UNKNOWN, 0, 4, 3, call, 0, REST, 0, 0, 1);
        for (int firm = 0; firm < 5; firm++) {
            r.gives(firm + 1, call, 0, REST, 0, firm, 10 + firm);
        }
        for (int firm = 0; firm < 5; firm++) {
            r.gives(10 + firm, "holds", 0, firm, kind);
            r.gives(90 - firm, "holds", REST, firm, kind);
        }
    }

    private void sellDay(int kind, String call) {
        Run r = sentence(call + ": OUTSIDE: the DAY (0 to 999)");
        r.gives(1, call, 999, REST, 0, 0, 7);
        r.gives(2, call, 0, REST, 0, 0, 5);
        r.keepsBeyond(OUTSIDE, 0, 999, 0, call, 0, REST, 0, 0, 1);
        r.gives(999, "told", 0, 0);
        r.gives(0, "told", 1, 0);
        r.gives(5, "holds", 0, 0, kind);
        r.gives(0, "look", 998);
        r.gives(5, "holds", 0, 0, kind);
        r.gives(998, "look", 999);
        r.gives(12, "holds", 0, 0, kind);
    }

    private void sellAmount(int kind, String call) {
        Run r = sentence(call + ": OUTSIDE: n (1 to 100)");
        r.keepsBeyond(OUTSIDE, 1, 100, 4, call, 0, REST, 0, 0, 1);
        r.gives(1, call, 0, REST, 0, 0, 100);
        r.gives(100, "holds", 0, 0, kind);
        r.gives(0, "holds", REST, 0, kind);
        r.keepsBeyond(OUTSIDE, 1, 100, 4, call, 0, 0, REST, 0, 1);
        r.gives(2, call, 0, 0, 1, 0, 1);
        r.gives(99, "holds", 0, 0, kind);
        r.gives(1, "holds", 1, 0, kind);
    }

    private void sellToOneself(int kind, String call) {
        Run r = sentence(call + ": OUTSIDE: from and to are one");
        r.gives(1, call, 0, REST, 0, 0, 10);
        for (int holder = 0; holder < 10; holder++) {
            r.keeps(OUTSIDE, call, 0, holder, holder, 0, 1);
        }
        r.gives(10, "holds", 0, 0, kind);
        r.gives(90, "holds", REST, 0, kind);
    }

    private void sellAndTheFirmItself(int kind, String call) {
        Run r = sentence(call + ": OUTSIDE: one of them is the FIRM itself");
        for (int firm = 0; firm < 5; firm++) {
            r.keeps(OUTSIDE, call, 0, REST, 4 + firm, firm, 1);
            r.keeps(OUTSIDE, call, 0, 4 + firm, REST, firm, 1);
            r.keeps(OUTSIDE, call, 0, 4 + firm, 4 + firm, firm, 1);
        }
        int deals = 0;
        for (int firm = 0; firm < 5; firm++) {
            for (int other = 0; other < 5; other++) {
                if (other != firm) {
                    deals++;
                    r.gives(deals, call, 0, REST, 4 + other, firm, 1);
                }
            }
        }
        r = sentence(call + ": a PERSON of the FIRM's number is not the FIRM itself");
        for (int firm = 0; firm < 4; firm++) {
            r.gives(2 * firm + 1, call, 0, REST, firm, firm, 2);
            r.gives(2 * firm + 2, call, 0, firm, REST, firm, 1);
            r.gives(1, "holds", firm, firm, kind);
        }
        r = sentence(call + ": HOLDER 4 is the FIRM 0 itself, and not the FIRM 4");
        r.keeps(OUTSIDE, call, 0, REST, 4, 0, 1);
        r.gives(1, call, 0, REST, 4, 4, 1);
    }

    private void sellRefusedInOrder(String call) {
        Run r = sentence("Terms: " + call + " answers the first that fits: UNKNOWN, OUTSIDE, NO, FULL");
        fill(r);
        r.keeps(UNKNOWN, call, 1000, 10, 10, 0, 0);
        r.keeps(UNKNOWN, call, -1, -1, 0, 0, 101);
        r.keeps(UNKNOWN, call, -1, 0, 10, 0, 101);
        r.keeps(UNKNOWN, call, -1, 0, 0, 5, 101);
        r.keeps(UNKNOWN, call, 0, 0, 0, -1, 1);
        r.keeps(OUTSIDE, call, 1000, 0, 1, 0, 1);
        r.keeps(OUTSIDE, call, -1, 0, 1, 0, 1);
        r.keeps(OUTSIDE, call, 0, 0, 1, 0, 0);
        r.keeps(OUTSIDE, call, 0, 0, 1, 0, 101);
        r.keeps(OUTSIDE, call, 0, 0, 0, 0, 1);
        r.keeps(OUTSIDE, call, 0, 4, 1, 0, 1);
        r.keeps(OUTSIDE, call, 0, 0, 4, 0, 1);
        r.keeps(NO, call, 0, 0, 1, 0, 1);
        r.keeps(FULL, call, 0, REST, 1, 0, 1);
        r.gives(40, "count", 0);
    }

    /** Forty DEALS that move nothing. */
    private static void fill(Run r) {
        for (int deal = 0; deal < 40; deal++) {
            r.gives(deal + 1, "veto", 10 * deal, 3, 2, 0);
        }
    }

    private void sound(int kind, String call) {
        givesToTheLast(kind, call);
        restGivesToTheLast(call);
        notBeforeItHas(kind, call);
        notWhatGoesLater(call);
        ofOneDayByRisingNumbers(kind, call);
        whicheverDayIsLookedAt(call);
        fromEachHolderItsOwn(kind, call);
    }

    private void givesToTheLast(int kind, String call) {
        Run r = sentence(call + ": NO: more than it has just then");
        r.keeps(NO, call, 5, 0, 1, 0, 1);
        r.gives(1, call, 5, REST, 0, 0, 40);
        r.keeps(NO, call, 5, 0, 1, 0, 41);
        r.keeps(NO, call, 999, 0, 1, 0, 100);
        r.gives(2, call, 5, 0, 1, 0, 40);
        r.keeps(NO, call, 5, 0, 1, 0, 1);
        r.keeps(NO, call, 6, 0, REST, 0, 1);
        r.gives(0, "look", 5);
        r.gives(0, "holds", 0, 0, kind);
        r.gives(40, "holds", 1, 0, kind);
    }

    private void restGivesToTheLast(String call) {
        Run r = sentence(call + ": NO: the REST, too, has no more than it has");
        r.gives(1, call, 0, REST, 0, 3, 99);
        r.keeps(NO, call, 0, REST, 1, 3, 2);
        r.gives(2, call, 0, REST, 1, 3, 1);
        r.keeps(NO, call, 0, REST, 1, 3, 1);
        r.keeps(NO, call, 999, REST, 1, 3, 1);
        r.gives(3, call, 7, 0, REST, 3, 1);
        r.keeps(NO, call, 6, REST, 1, 3, 1);
        r.gives(4, call, 7, REST, 1, 3, 1);
        r.keeps(NO, call, 7, REST, 1, 3, 1);
    }

    private void notBeforeItHas(int kind, String call) {
        Run r = sentence(call + ": NO, whenever it is told: what comes later is not there yet");
        r.gives(1, call, 10, REST, 0, 0, 50);
        r.keeps(NO, call, 9, 0, 1, 0, 1);
        r.keeps(NO, call, 0, 0, 1, 0, 50);
        r.gives(2, call, 10, 0, 1, 0, 50);
        r = sentence(call + ": NO, whenever it is told: what comes later is not there yet");
        r.gives(1, call, 999, REST, 0, 0, 1);
        r.keeps(NO, call, 998, 0, 1, 0, 1);
        r.gives(2, call, 999, 0, 1, 0, 1);
        r.gives(0, "look", 999);
        r.gives(1, "holds", 1, 0, kind);
    }

    private void notWhatGoesLater(String call) {
        Run r = sentence(call + ": NO: a DEAL done later would take more than is left");
        r.gives(1, call, 10, REST, 0, 0, 60);
        r.keeps(NO, call, 9, REST, 1, 0, 41);
        r.keeps(NO, call, 0, REST, 1, 0, 41);
        r.gives(2, call, 9, REST, 1, 0, 40);
        r.keeps(NO, call, 9, REST, 1, 0, 1);
        r.keeps(NO, call, 10, REST, 1, 0, 1);
        r.gives(3, call, 9, 1, REST, 0, 1);
        r.gives(4, call, 9, REST, 2, 0, 1);
        r = sentence(call + ": NO: in between, though it would do in the end");
        r.gives(1, call, 1, REST, 0, 0, 10);
        r.gives(2, call, 3, 0, 1, 0, 10);
        r.gives(3, call, 5, REST, 0, 0, 10);
        r.keeps(NO, call, 2, 0, 2, 0, 1);
        r.keeps(NO, call, 3, 0, 2, 0, 1);
        r.keeps(NO, call, 4, 0, 2, 0, 1);
        r.gives(4, call, 5, 0, 2, 0, 10);
    }

    private void ofOneDayByRisingNumbers(int kind, String call) {
        Run r = sentence("Terms 1: those of one DAY are DONE by rising numbers");
        r.gives(1, call, 4, REST, 0, 0, 60);
        r.gives(2, call, 4, 0, 1, 0, 60);
        r.gives(3, call, 4, 1, 2, 0, 60);
        r.keeps(NO, "cancel", 0);
        r.keeps(NO, "cancel", 1);
        r.gives(0, "look", 4);
        r.gives(60, "holds", 2, 0, kind);
        // Told last, the same is done last: 1 has nothing left then.
        r.keeps(NO, call, 4, 1, 3, 0, 1);
        r.keeps(NO, call, 4, 0, 3, 0, 1);
        r.gives(4, call, 4, 2, 3, 0, 1);
        r = sentence("Terms 1: DEALS are DONE by rising DAYS, whatever their numbers");
        r.gives(1, call, 5, REST, 0, 0, 60);
        r.keeps(NO, call, 4, 0, 1, 0, 60);
        r.gives(2, call, 4, REST, 1, 0, 40);
        r.gives(1, "told", 0, 6);
        r.gives(0, "told", 1, 6);
    }

    private void whicheverDayIsLookedAt(String call) {
        for (int looked : new int[] {0, 500, 999}) {
            Run r = sentence(call + ": NO, whichever DAY is looked at");
            r.gives(0, "look", looked);
            r.gives(1, call, 500, REST, 0, 0, 100);
            r.keeps(NO, call, 400, REST, 1, 0, 1);
            r.keeps(NO, call, 500, REST, 1, 0, 1);
            r.keeps(NO, call, 600, REST, 1, 0, 1);
            r.gives(2, call, 600, 0, 1, 0, 100);
        }
    }

    private void fromEachHolderItsOwn(int kind, String call) {
        Run r = sentence(call + ": NO: what others have, or it has of other FIRMS, is no help");
        r.gives(1, call, 0, REST, 1, 0, 50);
        r.gives(2, call, 0, REST, 0, 1, 50);
        for (int holder = 0; holder < 9; holder++) {
            if (holder != 1 && holder != 4) {
                r.keeps(NO, call, 0, holder, REST, 0, 1);
            }
        }
        for (int firm = 0; firm < 4; firm++) {
            if (firm != 1) {
                r.keeps(NO, call, 0, 0, 8, firm, 1);
            }
        }
        r.gives(3, call, 0, 1, 0, 0, 50);
        r.gives(50, "holds", 0, 0, kind);
    }

    private void full(String call) {
        Run r = sentence(call + ": FULL: up to 40 DEALS");
        for (int deal = 0; deal < 40; deal++) {
            r.gives(deal + 1, call, 40 - deal, REST, deal % 4, deal % 5, 1);
        }
        r.keeps(FULL, call, 0, REST, 0, 0, 1);
        r.keeps(FULL, call, 999, REST, 0, 0, 1);
        r.keeps(FULL, call, 999, REST, 0, 0, 92);
        r.keeps(NO, call, 999, REST, 0, 0, 93);
        r.keeps(NO, call, 0, REST, 0, 0, 93);
        r.keeps(FULL, call, 0, REST, 0, 0, 92);
        r.gives(40, "count", 0);
        r.gives(39, "told", 0, 6);
        r.gives(0, "told", 39, 6);
        r.keeps(UNKNOWN, "told", 40, 0);
        r.gives(39, "cancel", 39);
        r.gives(40, call, 999, REST, 0, 0, 1);
        r.gives(999, "told", 39, 0);
        r.keeps(FULL, call, 0, REST, 0, 0, 1);
        r.gives(39, "cancel", 0);
        r.gives(40, call, 0, REST, 0, 0, 1);
        r.keeps(FULL, call, 0, REST, 0, 0, 1);
    }

    private void sharesAndVotesAreApart() {
        Run r = sentence("2: n SHARES, no VOTES");
        r.gives(1, "sellShares", 0, REST, 0, 0, 100);
        r.gives(0, "holds", 0, 0, VOTES);
        r.gives(100, "holds", REST, 0, VOTES);
        r.keeps(NO, "sellVotes", 0, 0, 1, 0, 1);
        r.gives(2, "sellVotes", 0, REST, 1, 0, 100);
        r.gives(0, "told", 0, 2);
        r.gives(1, "told", 1, 2);
        r = sentence("3: n VOTES, no SHARES");
        r.gives(1, "sellVotes", 0, REST, 0, 0, 100);
        r.gives(0, "holds", 0, 0, SHARES);
        r.gives(100, "holds", REST, 0, SHARES);
        r.keeps(NO, "sellShares", 0, 0, 1, 0, 1);
        r.gives(2, "sellShares", 0, REST, 1, 0, 100);
    }

    // ---- promise 4

    private void veto() {
        vetoArguments();
        Run r = sentence("4: A FIRM may have a VETO in itself");
        for (int firm = 0; firm < 5; firm++) {
            r.gives(firm + 1, "veto", 0, 4 + firm, firm, 1);
            r.gives(1, "holds", 4 + firm, firm, VETO);
            r.gives(16 << firm, "above", firm, 2);
        }

        r = sentence("Terms 1, KIND 2: if it has one, that is no matter");
        r.gives(1, "veto", 0, 0, 0, 1);
        r.gives(2, "veto", 0, 0, 0, 1);
        r.gives(3, "veto", 1, 0, 0, 1);
        r.gives(1, "holds", 0, 0, VETO);
        r.gives(4, "veto", 1, 0, 0, 0);
        r.gives(0, "look", 1);
        r.gives(0, "holds", 0, 0, VETO);

        r = sentence("Terms 1, KIND 3: if it has none, that is no matter");
        r.gives(1, "veto", 0, 0, 0, 0);
        r.gives(2, "veto", 0, 0, 0, 0);
        r.gives(0, "holds", 0, 0, VETO);
        r.gives(3, "veto", 0, 0, 0, 1);
        r.gives(1, "holds", 0, 0, VETO);

        r = sentence("4: of one DAY the later number counts, of two the later DAY");
        r.gives(1, "veto", 5, 0, 0, 0);
        r.gives(2, "veto", 5, 0, 0, 1);
        r.gives(3, "veto", 4, 0, 0, 0);
        r.gives(0, "look", 5);
        r.gives(1, "holds", 0, 0, VETO);
        r.gives(5, "look", 4);
        r.gives(0, "holds", 0, 0, VETO);

        vetoOfEach();
        vetoFull();
    }

    private void vetoArguments() {
        Run r = sentence("4: UNKNOWN: the HOLDER (0 to 8; the REST, too)");
        r.keepsBeyond(UNKNOWN, 0, 8, 1, "veto", 0, 0, 0, 1);
        r.keeps(UNKNOWN, "veto", 0, REST, 0, 0);
        r = sentence("4: UNKNOWN: the FIRM (0 to 4)");
        r.keepsBeyond(UNKNOWN, 0, 4, 2, "veto", 0, 0, 0, 1);
        r = sentence("4: OUTSIDE: the DAY (0 to 999)");
        r.keepsBeyond(OUTSIDE, 0, 999, 0, "veto", 0, 0, 0, 1);
        r.gives(1, "veto", 999, 0, 0, 1);
        r.gives(0, "look", 998);
        r.gives(0, "holds", 0, 0, VETO);
        r.gives(998, "look", 999);
        r.gives(1, "holds", 0, 0, VETO);
        r = sentence("4: OUTSIDE: on (0, 1)");
        r.keepsBeyond(OUTSIDE, 0, 1, 3, "veto", 0, 0, 0, 1);
        r.gives(1, "veto", 0, 0, 0, 0);
        r.gives(3, "told", 0, 2);
        r.gives(2, "veto", 0, 0, 0, 1);
        r.gives(2, "told", 1, 2);
    }

    private void vetoOfEach() {
        Run r = sentence("4: each PERSON and FIRM may have a VETO in each FIRM, and in that one alone");
        int deals = 0;
        for (int holder = 0; holder < 9; holder += 4) {
            for (int firm = 0; firm < 5; firm++) {
                deals++;
                r.gives(deals, "veto", 0, holder, firm, 1);
                for (int other = 0; other < 5; other++) {
                    r.gives(other <= firm ? 1 : 0, "holds", holder, other, VETO);
                }
            }
        }
        r = sentence("4: VETOES of all nine, of which one is lost");
        for (int holder = 0; holder < 9; holder++) {
            r.gives(holder + 1, "veto", 0, holder, 4, 1);
        }
        r.gives(511, "above", 4, 2);
        r.gives(10, "veto", 0, 8, 4, 0);
        r.gives(255, "above", 4, 2);
        r.gives(11, "veto", 0, 0, 4, 0);
        r.gives(254, "above", 4, 2);
        r.gives(0, "holds", REST, 4, VETO);
    }

    private void vetoFull() {
        Run r = sentence("4: FULL");
        fill(r);
        r.keeps(FULL, "veto", 0, 0, 0, 1);
        r.keeps(FULL, "veto", 999, 8, 4, 0);
        r.keeps(UNKNOWN, "veto", 1000, REST, 0, 2);
        r.keeps(UNKNOWN, "veto", 1000, 0, 5, 2);
        r.keeps(OUTSIDE, "veto", 1000, 0, 0, 1);
        r.keeps(OUTSIDE, "veto", 0, 0, 0, 2);
        r.gives(39, "cancel", 20);
        r.gives(40, "veto", 0, 0, 0, 1);
        r.gives(1, "holds", 0, 0, VETO);
        r.keeps(FULL, "veto", 0, 0, 0, 1);
    }

    // ---- promise 5

    private void cancel() {
        Run r = sentence("5: UNKNOWN: there is no DEAL yet");
        r.keeps(UNKNOWN, "cancel", 0);
        r.keepsBeyond(UNKNOWN, 0, 0, 0, "cancel", 0);
        r = sentence("5: UNKNOWN: no such DEAL (0 to 2)");
        r.gives(1, "sellShares", 3, REST, 0, 0, 10);
        r.gives(2, "sellVotes", 2, REST, 1, 1, 20);
        r.gives(3, "veto", 1, 2, 2, 1);
        r.keepsBeyond(UNKNOWN, 0, 2, 0, "cancel", 0);
        r.gives(2, "cancel", 2);
        r.keeps(UNKNOWN, "cancel", 2);
        r.gives(1, "cancel", 0);
        r.keeps(UNKNOWN, "cancel", 1);
        r.gives(0, "cancel", 0);
        r.keeps(UNKNOWN, "cancel", 0);

        for (int gone = 0; gone < 4; gone++) {
            r = sentence("Terms 1: when one goes, each one behind it is one less");
            for (int deal = 0; deal < 4; deal++) {
                r.gives(deal + 1, "sellShares", 9 - deal, REST, deal, deal, 11 + deal);
            }
            r.gives(3, "cancel", gone);
            for (int deal = 0; deal < 3; deal++) {
                int was = deal < gone ? deal : deal + 1;
                r.gives(9 - was, "told", deal, 0);
                r.gives(was, "told", deal, 1);
                r.gives(0, "told", deal, 2);
                r.gives(REST, "told", deal, 3);
                r.gives(was, "told", deal, 4);
                r.gives(11 + was, "told", deal, 5);
                r.gives(2 - deal, "told", deal, 6);
            }
            r.keeps(UNKNOWN, "told", 3, 0);
            r.gives(0, "look", 999);
            r.gives(0, "holds", gone, gone, SHARES);
            r.gives(4, "veto", 0, 0, 0, 1);
        }
        cancelOfUnlikeKinds();
        cancelAndAskAgain();
        cancelUnsound();
        cancelOfAFullBook();
    }

    private void cancelOfUnlikeKinds() {
        for (int gone = 0; gone < 4; gone++) {
            Run r = sentence("Terms 1: when one goes, each one behind it is one less, of whatever KIND");
            r.gives(1, "sellShares", 1, REST, 0, 0, 11);
            r.gives(2, "sellVotes", 2, REST, 1, 1, 12);
            r.gives(3, "veto", 3, 2, 2, 1);
            r.gives(4, "veto", 4, 3, 3, 0);
            r.gives(3, "cancel", gone);
            for (int deal = 0; deal < 3; deal++) {
                int kind = deal < gone ? deal : deal + 1;
                int[] want = {kind + 1, kind, kind, kind < 2 ? REST : NONE, kind, kind < 2 ? 11 + kind : 0, deal, 0};
                for (int what = 0; what < 8; what++) {
                    r.gives(want[what], "told", deal, what);
                }
            }
            r.gives(0, "look", 999);
            r.gives(gone == 0 ? 0 : 11, "holds", 0, 0, SHARES);
            r.gives(gone == 1 ? 0 : 12, "holds", 1, 1, VOTES);
            r.gives(gone == 2 ? 0 : 1, "holds", 2, 2, VETO);
            r.gives(0, "holds", 3, 3, VETO);
        }
    }

    private void cancelAndAskAgain() {
        Run r = sentence("5: what is asked before and behind it");
        r.gives(1, "sellVotes", 0, REST, 0, 0, 60);
        r.gives(2, "sellShares", 0, REST, 0, 0, 60);
        r.gives(3, "veto", 0, 0, 0, 1);
        r.gives(60, "holds", 0, 0, VOTES);
        r.gives(1, "count", 7);
        r.gives(2, "cancel", 0);
        r.gives(0, "holds", 0, 0, VOTES);
        r.gives(0, "controls", 0);
        r.gives(0, "count", 7);
        r.gives(3, "stake", 0, 0, 0);
        r.gives(1, "cancel", 0);
        r.gives(0, "stake", 0, 0, 0);
        r.gives(1, "above", 0, 2);
        r.gives(0, "cancel", 0);
        r.gives(0, "above", 0, 2);
    }

    private void cancelUnsound() {
        for (String call : new String[] {"sellShares", "sellVotes"}) {
            Run r = sentence("5: NO: the others would not be SOUND (" + call + ")");
            r.gives(1, call, 3, REST, 0, 0, 40);
            r.gives(2, call, 2, REST, 0, 0, 10);
            r.gives(3, call, 3, 0, 1, 0, 41);
            r.gives(4, "veto", 0, 0, 0, 1);
            r.keeps(NO, "cancel", 0);
            r.keeps(NO, "cancel", 1);
            r.gives(4, "count", 0);
            r.gives(3, "cancel", 3);
            r.gives(2, "cancel", 2);
            r.gives(1, "cancel", 0);
            r.gives(0, "cancel", 0);
            r = sentence("5: NO: one that gives back what a later one takes (" + call + ")");
            r.gives(1, call, 3, REST, 0, 0, 40);
            r.gives(2, call, 4, 0, REST, 0, 40);
            r.gives(3, call, 999, REST, 1, 0, 61);
            r.keeps(NO, "cancel", 1);
            r.keeps(NO, "cancel", 0);
            r.gives(2, "cancel", 2);
            r.gives(3, call, 999, REST, 1, 0, 60);
            r.gives(2, "cancel", 1);
            r = sentence("5: exactly enough is left to the others (" + call + ")");
            r.gives(1, call, 3, REST, 0, 0, 40);
            r.gives(2, call, 2, REST, 0, 0, 10);
            r.gives(3, call, 3, 0, 1, 0, 40);
            r.keeps(NO, "cancel", 0);
            r.gives(2, "cancel", 1);
            r.keeps(NO, "cancel", 0);
        }
        Run r = sentence("5: a VETO's DEAL may always go");
        r.gives(1, "veto", 0, 0, 0, 1);
        r.gives(2, "veto", 5, 0, 0, 0);
        r.gives(1, "cancel", 0);
        r.gives(0, "holds", 0, 0, VETO);
        r.gives(0, "look", 5);
        r.gives(0, "cancel", 0);
        r.gives(0, "holds", 0, 0, VETO);
    }

    private void cancelOfAFullBook() {
        Run r = sentence("5: the first and the last of 40");
        fill(r);
        r.keepsBeyond(UNKNOWN, 0, 39, 0, "cancel", 0);
        r.gives(39, "cancel", 39);
        r.keeps(UNKNOWN, "cancel", 39);
        r.gives(38, "cancel", 0);
        r.gives(10, "told", 0, 0);
        r.gives(380, "told", 37, 0);
        for (int left = 37; left >= 0; left--) {
            r.gives(left, "cancel", 0);
        }
        r.keeps(UNKNOWN, "cancel", 0);
        r.gives(1, "veto", 0, 0, 0, 1);
    }

    // ---- promise 6

    private void told() {
        toldArguments();
        Run r = sentence("6: from whom (3; NONE: a VETO), whose VETO (4), how many (5; a VETO: 0)");
        r.gives(1, "veto", 0, 0, 0, 1);
        r.gives(2, "veto", 999, 8, 4, 0);
        r.gives(3, "sellVotes", 0, REST, 0, 4, 100);
        r.gives(4, "sellShares", 999, REST, 8, 0, 1);
        int[][] want = {
            {0, 0, 2, NONE, 0, 0, 0, 1},
            {999, 4, 3, NONE, 8, 0, 2, 0},
            {0, 4, 1, REST, 0, 100, 1, 1},
            {999, 0, 0, REST, 8, 1, 3, 0}};
        for (int deal = 0; deal < want.length; deal++) {
            for (int what = 0; what < 8; what++) {
                r.gives(want[deal][what], "told", deal, what);
            }
        }

        r = sentence("6: its place from 0 on (6), all of one DAY");
        for (int deal = 0; deal < 40; deal++) {
            r.gives(deal + 1, "veto", 999, 0, 0, 1);
        }
        for (int deal = 0; deal < 40; deal++) {
            r.gives(deal, "told", deal, 6);
        }

        r = sentence("6: its place from 0 on (6), of DAYS that fall, two of each");
        for (int deal = 0; deal < 40; deal++) {
            r.gives(deal + 1, "veto", 999 - deal / 2, 0, 0, 1);
        }
        for (int deal = 0; deal < 40; deal++) {
            r.gives(38 - deal / 2 * 2 + deal % 2, "told", deal, 6);
        }

        for (int day : new int[] {0, 1, 500, 998, 999}) {
            r = sentence("6: whether it is DONE by the end of the DAY that is looked at (7)");
            r.gives(1, "sellShares", day, REST, 0, 0, 1);
            r.gives(day == 0 ? 1 : 0, "told", 0, 7);
            if (day > 0) {
                r.gives(0, "look", day - 1);
                r.gives(0, "told", 0, 7);
                r.gives(0, "count", 5);
                r.gives(day - 1, "look", day);
            }
            r.gives(1, "told", 0, 7);
            r.gives(1, "count", 5);
            r.gives(day, "look", 999);
            r.gives(1, "told", 0, 7);
            r.gives(999, "look", 0);
            r.gives(day == 0 ? 1 : 0, "told", 0, 7);
        }
    }

    private void toldArguments() {
        Run r = sentence("6: UNKNOWN: there is no DEAL yet");
        r.keeps(UNKNOWN, "told", 0, 0);
        r.keeps(UNKNOWN, "told", 0, 8);
        r.keepsBeyond(UNKNOWN, 0, 0, 0, "told", 0, 0);
        r = sentence("6: UNKNOWN: no such DEAL (0 to 1)");
        r.gives(1, "sellShares", 7, REST, 4, 1, 33);
        r.gives(2, "veto", 5, 3, 0, 0);
        r.keepsBeyond(UNKNOWN, 0, 1, 0, "told", 0, 7);
        r.keepsBeyond(UNKNOWN, 0, 1, 0, "told", 0, 8);
        r = sentence("6: OUTSIDE: what (0 to 7)");
        r.gives(1, "sellShares", 7, REST, 4, 1, 33);
        r.gives(2, "veto", 5, 3, 0, 0);
        r.keepsBeyond(OUTSIDE, 0, 7, 1, "told", 0, 0);
        r.keepsBeyond(OUTSIDE, 0, 7, 1, "told", 1, 0);
    }

    // ---- promise 7

    private void look() {
        Run r = sentence("7: which one was before");
        r.gives(0, "look", 0);
        r.gives(0, "look", 999);
        r.gives(999, "count", 1);
        r.gives(999, "look", 999);
        r.gives(999, "look", 1);
        r.gives(1, "look", 0);
        r.gives(0, "count", 1);

        r = sentence("7: OUTSIDE (0 to 999)");
        r.gives(1, "sellVotes", 999, REST, 0, 0, 60);
        r.keepsBeyond(OUTSIDE, 0, 999, 0, "look", 0);
        r.gives(0, "look", 999);
        r.keepsBeyond(OUTSIDE, 0, 999, 0, "look", 0);
        r.gives(999, "look", 500);
        r.keepsBeyond(OUTSIDE, 0, 999, 0, "look", 0);
        r.gives(500, "look", 500);

        for (int day : new int[] {1, 500, 999}) {
            r = sentence("Terms 1: all is asked as it is at the end of the DAY that is looked at");
            r.gives(1, "sellVotes", day, REST, 0, 0, 60);
            r.gives(2, "sellShares", day, REST, 0, 0, 60);
            r.gives(3, "veto", day, 0, 0, 1);
            for (int looked = day - 1; looked <= Math.min(day + 1, 999); looked++) {
                int done = looked >= day ? 1 : 0;
                r.gives(looked == day - 1 ? 0 : looked - 1, "look", looked);
                r.gives(60 * done, "holds", 0, 0, SHARES);
                r.gives(60 * done, "holds", 0, 0, VOTES);
                r.gives(done, "holds", 0, 0, VETO);
                r.gives(done, "controls", 0);
                r.gives(3 * done, "stake", 0, 0, 0);
                r.gives(done, "owners", 0);
            }
        }
    }

    // ---- promise 8

    private void rule() {
        Run r = sentence("8: OUTSIDE: what (0 to 2)");
        r.keepsBeyond(OUTSIDE, 0, 2, 0, "rule", 0, 60);
        r.keepsBeyond(OUTSIDE, 0, 2, 0, "rule", 0, 100);
        int[] atFirst = {50, 30, 25};
        for (int what = 0; what < 3; what++) {
            r = sentence("8: OUTSIDE: n (1 to 99), of rule " + what);
            r.keepsBeyond(OUTSIDE, 1, 99, 1, "rule", what, 1);
            r.gives(atFirst[what], "rule", what, 1);
            r.gives(1, "count", 2 + what);
            r.keepsBeyond(OUTSIDE, 1, 99, 1, "rule", what, 1);
            r.gives(1, "rule", what, 99);
            r.gives(99, "count", 2 + what);
            r.keeps(OUTSIDE, "rule", what, 0);
            r.keeps(OUTSIDE, "rule", what, 100);
            r.gives(99, "rule", what, 99);
            for (int other = 0; other < 3; other++) {
                r.gives(other == what ? 99 : atFirst[other], "count", 2 + other);
            }
        }

        r = sentence("8: from now on, for all DAYS");
        r.gives(1, "sellVotes", 0, REST, 0, 0, 20);
        r.gives(2, "sellVotes", 999, 0, REST, 0, 20);
        r.gives(0, "look", 999);
        r.gives(0, "count", 7);
        r.gives(50, "rule", 0, 20);
        r.gives(0, "count", 7);
        r.gives(20, "rule", 0, 19);
        r.gives(2, "count", 7);
        r.gives(999, "look", 0);
        r.gives(1, "controls", 0);
        r.gives(19, "rule", 0, 50);
        r.gives(0, "controls", 0);
        r.gives(30, "rule", 1, 20);
        r.gives(1, "controls", 0);
        r.gives(2, "count", 7);
    }

    // ---- promise 9

    private void holds() {
        Run r = sentence("9: UNKNOWN: the HOLDER (0 to 9)");
        r.gives(1, "sellShares", 0, REST, 0, 0, 1);
        r.keepsBeyond(UNKNOWN, 0, 9, 0, "holds", 0, 0, 0);
        r.keepsBeyond(UNKNOWN, 0, 9, 0, "holds", 0, 0, 3);
        r.gives(1, "holds", 0, 0, SHARES);
        r.gives(99, "holds", REST, 0, SHARES);
        r = sentence("9: UNKNOWN: the FIRM (0 to 4)");
        r.gives(1, "sellVotes", 0, REST, 0, 4, 1);
        r.keepsBeyond(UNKNOWN, 0, 4, 1, "holds", REST, 0, 1);
        r.keepsBeyond(UNKNOWN, 0, 4, 1, "holds", REST, 0, -1);
        r.gives(100, "holds", REST, 0, VOTES);
        r.gives(99, "holds", REST, 4, VOTES);
        r = sentence("9: OUTSIDE: what (0 to 2)");
        r.gives(1, "veto", 0, 0, 0, 1);
        r.keepsBeyond(OUTSIDE, 0, 2, 2, "holds", 0, 0, 0);
        r.keepsBeyond(OUTSIDE, 0, 2, 2, "holds", REST, 4, 0);
        r = sentence("9: none, and all 100");
        r.gives(1, "sellShares", 0, REST, 8, 0, 100);
        r.gives(100, "holds", 8, 0, SHARES);
        r.gives(0, "holds", REST, 0, SHARES);
        r.gives(0, "holds", 8, 0, VOTES);
        r.gives(100, "holds", REST, 0, VOTES);
        r.gives(0, "holds", 4, 0, SHARES);
        r.gives(0, "holds", REST, 0, VETO);
    }
}
