/** Each promise of the document by hand-made runs: ordinary inputs, the edges it names, wrong inputs. */
public final class PromiseTest {
    private static final int UNKNOWN = -1, OUTSIDE = -2, STATE = -3, FULL = -4, NO = -5, NONE = -6;
    private static final int REST = 9;
    private static final int[] NO_HOLDERS = {-1, 10, Integer.MIN_VALUE, Integer.MAX_VALUE};
    private static final int[] NO_FIRMS = {-1, 5, Integer.MIN_VALUE, Integer.MAX_VALUE};
    private static final int[] NO_DAYS = {-1, 1000, Integer.MIN_VALUE, Integer.MAX_VALUE};
    private static final int[] NOT_0_OR_1 = {-1, 2, Integer.MIN_VALUE, Integer.MAX_VALUE};

    private final Check check = new Check();
    private String promise = "";

    private void due(String call, long got, long want) {
        check.due("promise " + promise + ": " + call, got, want);
    }

    public static void main(String[] args) {
        PromiseTest t = new PromiseTest();
        t.newObject();
        t.sellShares();
        t.sellVotes();
        t.soundness();
        t.full();
        t.veto();
        t.cancel();
        t.told();
        t.look();
        t.rule();
        t.holds();
        t.controlByHalf();
        t.controlByDeemed();
        t.controlAndVetoes();
        t.how();
        t.witnessAndChain();
        t.witnessOfEarlierRounds();
        t.above();
        t.when();
        t.fewest();
        t.event();
        t.stake();
        t.nobody();
        t.ranked();
        t.owners();
        t.circle();
        t.images();
        t.count();
        t.check.end();
    }

    private void newObject() {
        promise = "1";
        ControlRegister x = new ControlRegister();
        int[] want = {0, 0, 50, 30, 25, 0, 0, 0, 0, 0};
        for (int what = 0; what < want.length; what++) {
            due("count(" + what + ")", x.count(what), want[what]);
        }
        due("count(10)", x.count(10), NONE);
        due("restore(0)", x.restore(0), STATE);
        due("restore(1)", x.restore(1), STATE);
        for (int firm = 0; firm < 5; firm++) {
            for (int holder = 0; holder < 10; holder++) {
                due("shares", x.holds(holder, firm, 0), holder == REST ? 100 : 0);
                due("votes", x.holds(holder, firm, 1), holder == REST ? 100 : 0);
                due("veto", x.holds(holder, firm, 2), 0);
            }
        }
        x.sellVotes(0, 9, 0, 0, 60);
        due("another object's count(0)", new ControlRegister().count(0), 0);
    }

    private void sellShares() {
        promise = "2";
        ControlRegister x = new ControlRegister();
        due("one", x.sellShares(0, REST, 0, 0, 1), 1);
        due("the last day", x.sellShares(999, REST, 8, 0, 99), 2);
        due("a firm's shares to a firm", x.sellShares(999, 8, 5, 0, 99), 3);
        due("shares", x.holds(0, 0, 0), 1);
        due("no votes", x.holds(0, 0, 1), 0);
        for (int bad : NO_HOLDERS) {
            due("from", x.sellShares(-1, bad, 0, 0, 0), UNKNOWN);
            due("to", x.sellShares(-1, 0, bad, 0, 0), UNKNOWN);
        }
        for (int bad : NO_FIRMS) {
            due("firm", x.sellShares(-1, 9, 9, bad, 0), UNKNOWN);
        }
        for (int bad : NO_DAYS) {
            due("day", x.sellShares(bad, 0, 1, 0, 1), OUTSIDE);
        }
        for (int bad : new int[] {0, -1, 101, Integer.MIN_VALUE, Integer.MAX_VALUE}) {
            due("n", x.sellShares(0, 9, 1, 0, bad), OUTSIDE);
        }
        due("to itself", x.sellShares(0, 1, 1, 0, 1), OUTSIDE);
        due("from the firm itself", x.sellShares(0, 6, 1, 2, 1), OUTSIDE);
        due("to the firm itself", x.sellShares(0, 9, 6, 2, 1), OUTSIDE);
        due("to the firm before it", x.sellShares(0, 9, 5, 2, 1), 4);
        due("more than it has", x.sellShares(0, 5, 0, 2, 2), NO);
        due("all of the rest's", x.sellShares(0, 9, 0, 3, 100), 5);
        due("one more", x.sellShares(0, 9, 0, 3, 1), NO);
    }

    private void sellVotes() {
        promise = "3";
        ControlRegister x = new ControlRegister();
        due("one", x.sellVotes(0, REST, 0, 0, 1), 1);
        due("shares stay", x.holds(REST, 0, 0), 100);
        due("votes", x.holds(0, 0, 1), 1);
        due("the rest's votes", x.holds(REST, 0, 1), 99);
        for (int bad : NO_HOLDERS) {
            due("from", x.sellVotes(-1, bad, 0, 0, 0), UNKNOWN);
            due("to", x.sellVotes(-1, 0, bad, 0, 0), UNKNOWN);
        }
        for (int bad : NO_FIRMS) {
            due("firm", x.sellVotes(-1, 9, 9, bad, 0), UNKNOWN);
        }
        for (int bad : NO_DAYS) {
            due("day", x.sellVotes(bad, 0, 1, 0, 1), OUTSIDE);
        }
        due("n too great", x.sellVotes(0, 9, 1, 0, 101), OUTSIDE);
        due("n too small", x.sellVotes(0, 9, 1, 0, 0), OUTSIDE);
        due("to itself", x.sellVotes(0, 9, 9, 0, 1), OUTSIDE);
        due("from the firm itself", x.sellVotes(0, 8, 1, 4, 1), OUTSIDE);
        due("to the firm itself", x.sellVotes(0, 9, 8, 4, 1), OUTSIDE);
        due("more than it has", x.sellVotes(0, 0, 1, 0, 2), NO);
        due("back to the rest", x.sellVotes(0, 0, REST, 0, 1), 2);
        due("the rest has all", x.holds(REST, 0, 1), 100);
    }

    private void soundness() {
        promise = "2, 3, 5";
        ControlRegister x = new ControlRegister();
        due("told first, of a later day", x.sellVotes(10, 9, 0, 0, 50), 1);
        due("before it has any", x.sellVotes(9, 0, 1, 0, 1), NO);
        due("on that day, by a later number", x.sellVotes(10, 0, 1, 0, 50), 2);
        due("takes from a later deal", x.sellVotes(5, 9, 2, 0, 51), NO);
        due("leaves enough", x.sellVotes(5, 9, 2, 0, 50), 3);
        due("a later one needs them", x.cancel(0), NO);
        due("shares are apart from votes", x.sellShares(9, 0, 1, 0, 1), NO);
        due("and from other firms'", x.sellVotes(11, 1, 2, 1, 1), NO);
        due("the middle one goes", x.cancel(1), 2);
        due("then the first one", x.cancel(0), 1);
        due("what stays", x.told(0, 0), 5);

        ControlRegister y = new ControlRegister();
        due("there", y.sellShares(3, 9, 0, 0, 40), 1);
        due("back and forth", y.sellShares(4, 0, 9, 0, 40), 2);
        due("there again", y.sellShares(5, 9, 1, 0, 100), 3);
        due("the way back is needed", y.cancel(1), NO);
        due("only the last one may go", y.cancel(2), 2);
        due("same day, lower number first", y.sellShares(4, 9, 2, 0, 100), 3);
        due("the way back needs the way there", y.cancel(0), NO);
    }

    private void full() {
        promise = "2, 3, 4 (FULL)";
        ControlRegister x = new ControlRegister();
        for (int i = 1; i <= 40; i++) {
            due("deal " + i, i % 2 == 0 ? x.veto(i, 0, 0, 1) : x.sellShares(i, 9, 0, 0, 1), i);
        }
        due("one too many", x.sellShares(0, 9, 0, 0, 1), FULL);
        due("votes", x.sellVotes(0, 9, 0, 0, 1), FULL);
        due("a veto", x.veto(0, 0, 0, 0), FULL);
        due("NO goes first", x.sellShares(0, 1, 0, 0, 1), NO);
        due("OUTSIDE goes first", x.sellShares(0, 9, 9, 0, 1), OUTSIDE);
        due("UNKNOWN goes first", x.veto(-1, 9, 0, 1), UNKNOWN);
        due("still 40", x.count(0), 40);
        due("the 40th day", x.count(49), 40);
        due("one goes", x.cancel(39), 39);
        due("one comes", x.veto(0, 8, 4, 1), 40);
        due("done first", x.told(39, 6), 0);
        due("full again", x.veto(0, 8, 4, 1), FULL);
        due("NO of the full", x.sellShares(0, 9, 0, 0, 82), NO);
        due("FULL of the full", x.sellShares(0, 9, 0, 0, 80), FULL);
    }

    private void veto() {
        promise = "4";
        ControlRegister x = new ControlRegister();
        due("given", x.veto(5, 0, 0, 1), 1);
        due("given twice", x.veto(6, 0, 0, 1), 2);
        due("taken", x.veto(7, 0, 0, 0), 3);
        due("taken twice", x.veto(8, 0, 0, 0), 4);
        due("a firm in itself", x.veto(0, 4, 0, 1), 5);
        due("before", x.holds(0, 0, 2), 0);
        x.look(6);
        due("has it", x.holds(0, 0, 2), 1);
        x.look(7);
        due("lost it at once", x.holds(0, 0, 2), 0);
        due("its own", x.holds(4, 0, 2), 1);
        due("the rest", x.veto(-1, 9, 0, 2), UNKNOWN);
        for (int bad : NO_HOLDERS) {
            due("holder", x.veto(-1, bad, 0, 2), UNKNOWN);
        }
        for (int bad : NO_FIRMS) {
            due("firm", x.veto(-1, 0, bad, 2), UNKNOWN);
        }
        for (int bad : NO_DAYS) {
            due("day", x.veto(bad, 0, 0, 1), OUTSIDE);
        }
        for (int bad : NOT_0_OR_1) {
            due("on", x.veto(0, 0, 0, bad), OUTSIDE);
        }
        due("on one day the later number counts", x.veto(7, 0, 0, 1), 6);
        due("has it again", x.holds(0, 0, 2), 1);
    }

    private void cancel() {
        promise = "5";
        ControlRegister x = new ControlRegister();
        due("none", x.cancel(0), UNKNOWN);
        x.sellVotes(3, 9, 0, 0, 10);
        x.sellVotes(2, 9, 1, 1, 20);
        x.veto(1, 3, 2, 1);
        for (int bad : new int[] {-1, 3, Integer.MIN_VALUE, Integer.MAX_VALUE}) {
            due("deal", x.cancel(bad), UNKNOWN);
        }
        due("the first goes", x.cancel(0), 2);
        due("the second is the first now", x.told(0, 4), 1);
        due("its number", x.told(0, 5), 20);
        due("the third is the second now", x.told(1, 2), 2);
        due("whose", x.told(1, 4), 3);
        x.look(999);
        due("its votes are back", x.holds(9, 0, 1), 100);
        due("the last goes", x.cancel(1), 1);
        due("a veto is gone", x.holds(3, 2, 2), 0);
        due("the only one", x.cancel(0), 0);
        due("none again", x.cancel(0), UNKNOWN);
    }

    private void told() {
        promise = "6";
        ControlRegister x = new ControlRegister();
        x.sellShares(7, 9, 4, 1, 33);
        x.sellVotes(5, 9, 0, 2, 100);
        x.veto(7, 8, 4, 1);
        x.veto(5, 3, 0, 0);
        x.look(5);
        int[][] want = {
            {7, 1, 0, 9, 4, 33, 2, 0},
            {5, 2, 1, 9, 0, 100, 0, 1},
            {7, 4, 2, NONE, 8, 0, 3, 0},
            {5, 0, 3, NONE, 3, 0, 1, 1}};
        for (int deal = 0; deal < want.length; deal++) {
            for (int what = 0; what < 8; what++) {
                due("told(" + deal + ", " + what + ")", x.told(deal, what), want[deal][what]);
            }
            due("what", x.told(deal, 8), OUTSIDE);
            due("what", x.told(deal, -1), OUTSIDE);
        }
        due("deal, and what", x.told(4, 8), UNKNOWN);
        due("deal", x.told(-1, 0), UNKNOWN);
    }

    private void look() {
        promise = "7";
        ControlRegister x = new ControlRegister();
        due("999", x.look(999), 0);
        for (int bad : NO_DAYS) {
            due("day", x.look(bad), OUTSIDE);
        }
        due("0", x.look(0), 999);
        due("again", x.look(0), 0);
    }

    private void rule() {
        promise = "8";
        ControlRegister x = new ControlRegister();
        int[] first = {50, 30, 25};
        for (int what = 0; what < 3; what++) {
            due("to 1", x.rule(what, 1), first[what]);
            due("to 99", x.rule(what, 99), 1);
            due("0", x.rule(what, 0), OUTSIDE);
            due("100", x.rule(what, 100), OUTSIDE);
            due("least", x.rule(what, Integer.MIN_VALUE), OUTSIDE);
            due("still 99", x.count(2 + what), 99);
        }
        due("what", x.rule(-1, 50), OUTSIDE);
        due("what", x.rule(3, 50), OUTSIDE);
        // For all DAYS: the one before the rule was given, too.
        ControlRegister y = new ControlRegister();
        y.sellVotes(1, 9, 0, 0, 20);
        y.look(500);
        due("no control", y.count(7), 0);
        y.rule(0, 19);
        due("control since day 1", y.event(0, 0), 1);
    }

    private void holds() {
        promise = "9";
        ControlRegister x = new ControlRegister();
        x.sellShares(1, 9, 0, 0, 30);
        x.sellShares(1, 0, 5, 0, 10);
        x.sellVotes(2, 9, 5, 0, 45);
        x.look(1);
        due("shares of 0", x.holds(0, 0, 0), 20);
        due("shares of firm 1", x.holds(5, 0, 0), 10);
        due("shares of the rest", x.holds(9, 0, 0), 70);
        due("votes not yet", x.holds(5, 0, 1), 0);
        x.look(2);
        due("votes", x.holds(5, 0, 1), 45);
        due("the rest has no veto", x.holds(9, 0, 2), 0);
        for (int bad : NO_HOLDERS) {
            due("holder", x.holds(bad, 0, 3), UNKNOWN);
        }
        for (int bad : NO_FIRMS) {
            due("firm", x.holds(0, bad, 3), UNKNOWN);
        }
        due("what", x.holds(0, 0, 3), OUTSIDE);
        due("what", x.holds(9, 4, -1), OUTSIDE);
    }

    private void controlByHalf() {
        promise = "10";
        ControlRegister x = new ControlRegister();
        x.rule(1, 99);
        x.sellVotes(0, 9, 0, 0, 50);
        due("half is not enough", x.controls(0), 0);
        x.sellVotes(0, 9, 0, 0, 1);
        due("more than half is", x.controls(0), 1);
        x.sellVotes(0, 9, 4, 1, 30);
        x.sellVotes(0, 9, 0, 1, 21);
        due("with the firm's votes", x.controls(0), 3);
        due("the firm alone has too few", x.controls(4), 0);
        // A ring: 1 over 2 over 3 over 1, each controls all, itself among them.
        x.sellVotes(0, 9, 6, 3, 60);
        x.sellVotes(0, 9, 7, 4, 60);
        x.sellVotes(0, 9, 8, 2, 60);
        due("firm 2", x.controls(6), 4 + 8 + 16);
        due("firm 3", x.controls(7), 4 + 8 + 16);
        due("nobody else", x.controls(1), 0);
        due("the rest", x.controls(9), UNKNOWN);
        for (int bad : NO_HOLDERS) {
            due("holder", x.controls(bad), UNKNOWN);
        }
        // A firm that controls itself counts once: 30 and 21 of its own, not 30 twice.
        ControlRegister y = new ControlRegister();
        y.rule(1, 99);
        y.sellVotes(0, 9, 4, 1, 51);
        y.sellVotes(0, 9, 5, 0, 51);
        y.sellVotes(0, 9, 4, 2, 30);
        due("a ring of two", y.controls(4), 3);
        due("its block in firm 2", y.how(4, 2, 2), 30);
        due("half below deemed: two may control one firm", y.rule(0, 29), 50);
        due("now by 30", y.controls(4), 7);
        due("the other of the ring", y.controls(5), 7);
    }

    private void controlByDeemed() {
        promise = "10";
        ControlRegister x = new ControlRegister();
        x.sellVotes(0, 9, 0, 0, 29);
        due("below deemed", x.controls(0), 0);
        x.sellVotes(0, 9, 0, 0, 1);
        due("deemed, though the rest has 70", x.controls(0), 1);
        x.sellVotes(0, 9, 1, 0, 30);
        due("matched by a person", x.controls(0), 0);
        x.sellVotes(0, 1, 9, 0, 1);
        due("29 against 30", x.controls(0), 1);
        x.sellVotes(0, 9, 8, 0, 30);
        due("matched by a firm", x.controls(0), 0);
        due("the firm neither", x.controls(8), 0);
        x.sellVotes(0, 9, 0, 4, 51);
        due("that firm is of its set", x.controls(0), 1 + 16);
        // The block of several stands against each one alone, not against their sum.
        ControlRegister y = new ControlRegister();
        y.sellVotes(0, 9, 0, 0, 31);
        y.sellVotes(0, 9, 1, 0, 30);
        y.sellVotes(0, 9, 2, 0, 30);
        due("31 against 30 and 30", y.controls(0), 1);
        due("30 of 1", y.controls(1), 0);
    }

    private void controlAndVetoes() {
        promise = "10";
        ControlRegister x = new ControlRegister();
        x.sellVotes(0, 9, 0, 0, 100);
        x.veto(1, 0, 0, 1);
        x.veto(2, 1, 0, 1);
        x.veto(3, 1, 0, 0);
        x.veto(4, 4, 0, 1);
        int[] want = {1, 1, 0, 1, 0};
        for (int day = 0; day < want.length; day++) {
            x.look(day);
            due("day " + day, x.controls(0), want[day]);
        }
        // The veto of a firm that is of the set stands against nobody, but only from the next round on.
        ControlRegister y = new ControlRegister();
        y.sellVotes(0, 9, 0, 0, 51);
        y.sellVotes(0, 9, 0, 1, 51);
        y.veto(0, 4, 1, 1);
        due("both", y.controls(0), 3);
        due("the second in round 2", y.how(0, 1, 1), 2);
        due("by the firm with the veto", y.how(0, 1, 3), 1);
        due("that firm itself has no votes", y.controls(4), 0);
        // A firm with a veto in itself can come under its own control alone.
        ControlRegister z = new ControlRegister();
        z.sellVotes(0, 9, 4, 1, 60);
        z.sellVotes(0, 9, 5, 0, 60);
        z.veto(0, 4, 0, 1);
        due("firm 0 controls both", z.controls(4), 3);
        due("firm 1 controls none", z.controls(5), 0);
    }

    private void how() {
        promise = "11";
        ControlRegister x = new ControlRegister();
        x.sellVotes(0, 9, 0, 0, 40);
        x.sellVotes(0, 9, 0, 1, 60);
        x.sellVotes(0, 9, 5, 0, 20);
        due("by half in the end, though got as deemed", x.how(0, 0, 0), 1);
        due("in round 1", x.how(0, 0, 1), 1);
        due("block in the end", x.how(0, 0, 2), 60);
        due("witness of none", x.how(0, 0, 3), 0);
        due("chain of none", x.how(0, 0, 4), 0);
        due("none", x.how(1, 0, 0), 0);
        due("no round", x.how(1, 0, 1), NONE);
        due("no block", x.how(1, 0, 2), 0);
        due("no witness", x.how(1, 0, 3), NONE);
        due("no chain", x.how(1, 0, 4), NONE);
        due("a block without control", x.how(5, 0, 2), 20);
        x.sellVotes(0, 0, 9, 1, 10);
        due("exactly half is not more", x.how(0, 1, 0), 2);
        due("50", x.how(0, 1, 2), 50);
        due("the rest", x.how(9, 0, 5), UNKNOWN);
        for (int bad : NO_HOLDERS) {
            due("holder", x.how(bad, 0, 5), UNKNOWN);
        }
        for (int bad : NO_FIRMS) {
            due("firm", x.how(0, bad, 5), UNKNOWN);
        }
        due("what", x.how(0, 0, 5), OUTSIDE);
        due("what", x.how(0, 0, -1), OUTSIDE);
    }

    private void witnessAndChain() {
        promise = "11";
        ControlRegister x = new ControlRegister();
        x.sellVotes(0, 9, 0, 0, 51);
        x.sellVotes(0, 9, 0, 1, 51);
        x.sellVotes(0, 9, 0, 2, 51);
        x.sellVotes(0, 9, 4, 3, 26);
        x.sellVotes(0, 9, 5, 3, 26);
        x.sellVotes(0, 9, 6, 3, 26);
        due("all of four", x.controls(0), 15);
        due("two are enough against the third's 26", x.how(0, 3, 3), 3);
        x.sellVotes(0, 9, 1, 3, 15);
        x.sellVotes(0, 4, 6, 3, 20);
        // Now 6, 26, 46 and 15: the last alone is 46, deemed and greater than each other one.
        due("one alone", x.how(0, 3, 3), 4);
        x.veto(0, 5, 3, 1);
        due("the one with the veto must be of it", x.how(0, 3, 3), 6);
        x.sellVotes(0, 9, 7, 4, 60);
        due("round 3", x.how(0, 4, 1), 3);
        due("witness of firm 4", x.how(0, 4, 3), 8);
        due("chain of firm 4", x.how(0, 4, 4), 8 + 6);
        due("rounds", x.count(6), 3);
        // A later firm with votes of it never is of the witness.
        ControlRegister y = new ControlRegister();
        y.sellVotes(0, 9, 4, 1, 60);
        y.sellVotes(0, 9, 0, 0, 31);
        y.sellVotes(0, 9, 5, 0, 20);
        due("both", y.controls(0), 3);
        due("got without firm 1", y.how(0, 0, 3), 0);
        due("in the end by more than half", y.how(0, 0, 0), 1);
        // The ring of three: by the one before, chained through both.
        ControlRegister z = new ControlRegister();
        z.sellVotes(0, 9, 4, 1, 60);
        z.sellVotes(0, 9, 5, 2, 60);
        z.sellVotes(0, 9, 6, 0, 60);
        due("round of itself", z.how(4, 0, 1), 3);
        due("chain of itself", z.how(4, 0, 4), 6);
        // Five rounds, and one more that gives nothing.
        ControlRegister v = new ControlRegister();
        v.sellVotes(0, 9, 3, 4, 51);
        for (int firm = 0; firm < 4; firm++) {
            v.sellVotes(0, 9, 5 + firm, firm, 51);
        }
        due("five rounds", v.count(6), 5);
        due("the first", v.how(3, 4, 1), 1);
        due("the last", v.how(3, 0, 1), 5);
        due("by the one before", v.how(3, 0, 3), 2);
        due("by all the others in the end", v.how(3, 0, 4), 30);
        // A way that leaves the ring.
        z.sellVotes(0, 9, 6, 3, 60);
        z.sellVotes(0, 9, 7, 4, 60);
        due("firm 3 controls the last alone", z.controls(7), 16);
        due("rounds of firm 0", z.how(4, 4, 1), 4);
        due("its chain", z.how(4, 4, 4), 2 + 4 + 8);
        due("most rounds", z.count(6), 4);
        z.sellVotes(0, 6, 9, 3, 60);
        z.sellVotes(0, 9, 4, 3, 60);
        due("firm 1 gets it in its fourth", z.how(5, 4, 1), 4);
        z.sellVotes(0, 9, 0, 1, 20);
        due("20 of 100 bring nothing", z.controls(0), 0);
        z.rule(0, 59);
        due("59 is half now", z.controls(4), 31);
    }

    private void witnessOfEarlierRounds() {
        promise = "11";
        // Firm 3, of the same round, would do alone; only those of the round before may be taken.
        ControlRegister x = new ControlRegister();
        x.sellVotes(0, 9, 0, 0, 51);
        x.sellVotes(0, 9, 0, 1, 51);
        x.sellVotes(0, 9, 4, 3, 51);
        x.sellVotes(0, 9, 4, 2, 26);
        x.sellVotes(0, 9, 5, 2, 26);
        x.sellVotes(0, 9, 7, 2, 48);
        due("the same round", x.how(0, 3, 1), x.how(0, 2, 1));
        due("those of the round before", x.how(0, 2, 3), 3);
        // The like with firm 0: it is got later, and so it is of no witness.
        ControlRegister y = new ControlRegister();
        y.sellVotes(0, 9, 1, 3, 51);
        y.sellVotes(0, 9, 1, 4, 51);
        y.sellVotes(0, 9, 7, 2, 26);
        y.sellVotes(0, 9, 8, 2, 26);
        y.sellVotes(0, 9, 4, 2, 48);
        y.sellVotes(0, 9, 6, 0, 51);
        due("firm 0 is the last", y.how(1, 0, 1), 3);
        due("two of round 1", y.how(1, 2, 3), 24);
        due("the chain", y.how(1, 0, 4), 28);
        // Of witnesses of two the least as a number, whatever its votes.
        ControlRegister z = new ControlRegister();
        z.rule(1, 99);
        for (int firm = 0; firm < 4; firm++) {
            z.sellVotes(0, 9, 2, firm, 51);
        }
        z.sellVotes(0, 9, 4, 4, 5);
        z.sellVotes(0, 9, 5, 4, 15);
        z.sellVotes(0, 9, 6, 4, 36);
        z.sellVotes(0, 9, 7, 4, 44);
        due("51 of 1 and 2", z.how(2, 4, 3), 6);
        z.sellVotes(0, 4, 5, 4, 5);
        z.sellVotes(0, 7, 4, 4, 40);
        due("40 and 20 of 0 and 1", z.how(2, 4, 3), 3);
        // A middle link of the number 0 leads on.
        ControlRegister v = new ControlRegister();
        v.sellVotes(0, 9, 3, 1, 51);
        v.sellVotes(0, 9, 5, 0, 51);
        v.sellVotes(0, 9, 4, 2, 51);
        due("through firm 0", v.how(3, 2, 4), 3);
        due("by firm 0", v.how(3, 2, 3), 1);
    }

    private void above() {
        promise = "12";
        ControlRegister x = new ControlRegister();
        x.rule(0, 20);
        x.sellVotes(0, 9, 0, 4, 21);
        x.sellVotes(0, 9, 3, 4, 21);
        x.sellVotes(0, 9, 4, 4, 21);
        x.sellVotes(0, 9, 7, 4, 21);
        due("persons", x.above(4, 0), 1 + 8);
        due("firms", x.above(4, 1), 1 + 8);
        due("no ring", x.above(4, 3), 0);
        x.sellVotes(0, 9, 8, 3, 30);
        due("a ring", x.above(4, 3), 1);
        due("both of it", x.above(3, 3), 1);
        due("firms of a ring", x.above(4, 1), 1 + 8 + 16);
        due("firms over 3: all that control 4", x.above(3, 1), 1 + 8 + 16);
        x.veto(0, 0, 2, 1);
        x.veto(0, 8, 2, 1);
        x.veto(0, 6, 2, 1);
        due("vetoes", x.above(2, 2), 1 + 64 + 256);
        due("no vetoes", x.above(4, 2), 0);
        for (int bad : NO_FIRMS) {
            due("firm", x.above(bad, 4), UNKNOWN);
        }
        due("what", x.above(0, 4), OUTSIDE);
        due("what", x.above(0, -1), OUTSIDE);
    }

    private void when() {
        promise = "13";
        ControlRegister x = new ControlRegister();
        due("never", x.when(0, 0, 1), NONE);
        due("at once not", x.when(0, 0, 0), 0);
        x.sellVotes(10, 9, 0, 0, 60);
        x.sellVotes(20, 0, 9, 0, 60);
        x.sellVotes(999, 9, 0, 0, 60);
        int[][] want = {{0, 10, 0}, {9, 10, 9}, {10, 10, 20}, {15, 15, 20}, {19, 19, 20}, {20, 999, 20},
            {998, 999, 998}, {999, 999, NONE}};
        for (int[] row : want) {
            x.look(row[0]);
            due("controls, from " + row[0], x.when(0, 0, 1), row[1]);
            due("does not, from " + row[0], x.when(0, 0, 0), row[2]);
        }
        due("another", x.when(4, 0, 1), NONE);
        due("another", x.when(4, 0, 0), 999);
        due("the rest", x.when(9, 0, 2), UNKNOWN);
        for (int bad : NO_HOLDERS) {
            due("holder", x.when(bad, 0, 2), UNKNOWN);
        }
        for (int bad : NO_FIRMS) {
            due("firm", x.when(0, bad, 2), UNKNOWN);
        }
        for (int bad : NOT_0_OR_1) {
            due("is", x.when(0, 0, bad), OUTSIDE);
        }
    }

    private void fewest() {
        promise = "14";
        ControlRegister x = new ControlRegister();
        x.sellVotes(0, 9, 0, 0, 60);
        x.sellVotes(0, 9, 1, 0, 25);
        due("sell down to below deemed", x.fewest(0, 0, 0), 31);
        x.sellVotes(0, 9, 1, 0, 10);
        due("sell down to the other's 35", x.fewest(0, 0, 0), 25);
        due("controls it already", x.fewest(0, 0, 1), 0);
        due("the rest's 5 do not do", x.fewest(1, 0, 1), NONE);
        due("does not control", x.fewest(1, 0, 0), 0);
        x.sellVotes(0, 0, 9, 0, 26);
        // 34, 35 and 31 of the rest.
        due("buy to pass 35", x.fewest(0, 0, 1), 2);
        due("from none to pass 35 by 31", x.fewest(2, 0, 1), NONE);
        due("sell to be like 34", x.fewest(1, 0, 0), 1);
        due("itself, and no control", x.fewest(4, 0, 1), NONE);
        due("itself, and no control", x.fewest(4, 0, 0), 0);
        // Through another firm: to hold f is to hold what controls it.
        ControlRegister y = new ControlRegister();
        y.sellVotes(0, 9, 0, 0, 20);
        y.sellVotes(0, 9, 4, 1, 60);
        y.sellVotes(0, 9, 5, 0, 60);
        due("the ring counts", y.controls(4), 3);
        due("0 has 20 of 0", y.controls(0), 0);
        due("needs more than 60 of 40 and the rest's 20", y.fewest(0, 0, 1), NONE);
        due("or 1: it has 0 then, too", y.fewest(0, 1, 1), NONE);
        y.sellVotes(0, 5, 9, 0, 31);
        due("29 of firm 1: 30 do", y.fewest(0, 0, 1), 10);
        due("a ring cannot sell what it has not", y.fewest(4, 1, 0), 31);
        due("itself, by none", y.fewest(4, 0, 0), 0);
        // All its votes sold, it may control by others' votes still.
        ControlRegister z = new ControlRegister();
        z.sellVotes(0, 9, 0, 0, 60);
        z.sellVotes(0, 9, 0, 1, 10);
        z.sellVotes(0, 9, 4, 1, 60);
        due("never", z.fewest(0, 1, 0), NONE);
        // Its own votes are not for a firm to buy: one would do here.
        ControlRegister w = new ControlRegister();
        w.rule(1, 1);
        due("one of another firm", w.fewest(4, 1, 1), 1);
        due("none of itself", w.fewest(4, 0, 1), NONE);
        // All that the rest has, and not one less.
        w.rule(1, 30);
        w.sellVotes(0, 9, 0, 1, 49);
        w.sellVotes(0, 9, 1, 1, 1);
        due("49 of the 50", w.fewest(1, 1, 1), 49);
        w.sellVotes(0, 9, 2, 1, 2);
        due("48 and 1 are like 49", w.fewest(1, 1, 1), NONE);
        w.sellVotes(0, 2, 1, 1, 1);
        due("48 and 2 are all", w.fewest(1, 1, 1), 48);
        // Selling the last one of few.
        ControlRegister v = new ControlRegister();
        v.rule(1, 1);
        v.sellVotes(0, 9, 0, 0, 7);
        due("all seven", v.fewest(0, 0, 0), 7);
        v.veto(0, 1, 0, 1);
        due("a veto cannot be bought away", v.fewest(0, 0, 1), NONE);
        due("its owner buys one more than seven", v.fewest(1, 0, 1), 8);
        v.veto(0, 0, 0, 1);
        due("two vetoes", v.fewest(1, 0, 1), NONE);
        due("the rest", v.fewest(9, 0, 2), UNKNOWN);
        for (int bad : NO_HOLDERS) {
            due("holder", v.fewest(bad, 0, 2), UNKNOWN);
        }
        for (int bad : NO_FIRMS) {
            due("firm", v.fewest(0, bad, 2), UNKNOWN);
        }
        for (int bad : NOT_0_OR_1) {
            due("way", v.fewest(0, 0, bad), OUTSIDE);
        }
        due("nothing was sold", v.holds(0, 0, 1), 7);
    }

    private void event() {
        promise = "15";
        ControlRegister x = new ControlRegister();
        x.sellVotes(999, 9, 0, 4, 60);
        x.sellVotes(4, 9, 4, 1, 60);
        x.sellVotes(4, 9, 1, 0, 60);
        x.sellVotes(6, 1, 2, 0, 60);
        x.sellVotes(7, 2, 3, 0, 10);
        x.sellVotes(7, 3, 2, 0, 10);
        int[][] want = {
            {4, 1, 0, 1}, {4, 1, 1, 1}, {4, 4, 1, 1},
            {6, 1, 0, 0}, {6, 1, 1, 0}, {6, 2, 0, 1}, {6, 2, 1, 1},
            {999, 0, 4, 1}};
        for (int i = 0; i < want.length; i++) {
            for (int what = 0; what < 4; what++) {
                due("event(" + i + ", " + what + ")", x.event(i, what), want[i][what]);
            }
        }
        due("how many", x.count(7), want.length);
        for (int none : new int[] {-1, 8, Integer.MIN_VALUE, Integer.MAX_VALUE}) {
            due("i", x.event(none, 0), NONE);
            due("what goes first", x.event(none, 4), OUTSIDE);
            due("what goes first", x.event(none, -1), OUTSIDE);
        }
        x.look(999);
        due("whichever day is looked at", x.event(0, 0), 4);
        // A begin on day 0 is one, too.
        ControlRegister y = new ControlRegister();
        y.sellVotes(0, 9, 0, 0, 60);
        due("day 0", y.event(0, 0), 0);
        due("begins", y.event(0, 3), 1);
        // The events follow the rules.
        due("rule", y.rule(0, 60), 50);
        due("rule", y.rule(1, 61), 30);
        due("none by 60", y.count(7), 0);
        due("none by 60", y.event(0, 0), NONE);
    }

    private void dueStake(ControlRegister x, int holder, int firm, long upper, long lower) {
        due("stake(" + holder + ", " + firm + ", 0)", x.stake(holder, firm, 0), upper);
        due("stake(" + holder + ", " + firm + ", 1)", x.stake(holder, firm, 1), lower);
    }

    private void stake() {
        promise = "16";
        ControlRegister x = new ControlRegister();
        dueStake(x, REST, 0, 1, 1);
        dueStake(x, 0, 0, 0, 1);
        x.sellShares(0, 9, 0, 0, 60);
        dueStake(x, 0, 0, 3, 5);
        dueStake(x, REST, 0, 2, 5);
        // Firm 0 has 50 of firm 1, firm 1 has 40 of firm 0: s0 = 6/10 + 4/10 s1, s1 = 5/10 s0.
        x.sellShares(0, 9, 4, 1, 50);
        x.sellShares(0, 9, 5, 0, 40);
        dueStake(x, 0, 0, 3, 4);
        dueStake(x, 0, 1, 3, 8);
        dueStake(x, REST, 0, 1, 4);
        dueStake(x, REST, 1, 5, 8);
        dueStake(x, 3, 1, 0, 1);
        // 99 of 100 around five firms: s0 = 1/100 + (99/100)^5 s0.
        ControlRegister y = new ControlRegister();
        for (int firm = 0; firm < 5; firm++) {
            y.sellShares(0, 9, 4 + (firm + 1) % 5, firm, 99);
        }
        y.sellShares(0, 9, 0, 0, 1);
        long all = 10000000000L - 9509900499L;
        dueStake(y, 0, 0, 100000000L, all);
        dueStake(y, 0, 4, 99000000L, all);
        dueStake(y, 0, 1, 96059601L, all);
        // All others are held by firms: what one person has of one firm is all of all.
        ControlRegister z = new ControlRegister();
        for (int firm = 0; firm < 5; firm++) {
            z.sellShares(0, 9, 4 + (firm + 1) % 5, firm, 99);
            z.sellShares(0, 9, firm == 2 ? 3 : 4 + (firm + 2) % 5, firm, 1);
        }
        for (int firm = 0; firm < 5; firm++) {
            dueStake(z, 3, firm, 1, 1);
            dueStake(z, REST, firm, 0, 1);
        }
        due("a locked one has no lower number but 1", lockedStake(), 1);
        for (int firmAsHolder = 4; firmAsHolder < 9; firmAsHolder++) {
            due("a firm", z.stake(firmAsHolder, 0, 2), UNKNOWN);
        }
        for (int bad : NO_HOLDERS) {
            due("holder", z.stake(bad, 0, 2), UNKNOWN);
        }
        for (int bad : NO_FIRMS) {
            due("firm", z.stake(0, bad, 2), UNKNOWN);
        }
        for (int bad : NOT_0_OR_1) {
            due("what", z.stake(0, 0, bad), OUTSIDE);
        }
    }

    private long lockedStake() {
        ControlRegister x = new ControlRegister();
        x.sellShares(0, 9, 4, 1, 100);
        x.sellShares(0, 9, 5, 0, 100);
        dueStake(x, REST, 0, 0, 1);
        due("both are locked", x.count(8), 3);
        return x.stake(REST, 1, 1);
    }

    private void nobody() {
        promise = "17";
        ControlRegister x = new ControlRegister();
        due("none of it", x.nobody(0, 0), 0);
        due("by 1", x.nobody(0, 1), 1);
        x.sellShares(0, 9, 4, 1, 100);
        x.sellShares(0, 9, 5, 0, 100);
        due("all of it", x.nobody(1, 0), 1);
        due("by 1", x.nobody(1, 1), 1);
        x.sellShares(0, 9, 4, 2, 33);
        x.sellShares(0, 9, 7, 2, 30);
        x.sellShares(0, 9, 6, 3, 20);
        // n2 = 33/100 + 30/100 n3, n3 = 20/100 n2.
        due("in a ring of others", x.nobody(2, 0), 33);
        due("in a ring of others", x.nobody(2, 1), 94);
        due("one further", x.nobody(3, 0), 33);
        due("one further", x.nobody(3, 1), 470);
        due("the other firms are locked", x.count(8), 3);
        for (int person = 0; person < 4; person++) {
            x.sellShares(0, 9, person, 4, 10 + person);
        }
        x.sellShares(0, 9, 5, 4, 14);
        due("what persons and the rest have is not nobody's", x.nobody(4, 0), 7);
        due("what persons and the rest have is not nobody's", x.nobody(4, 1), 50);
        for (int bad : NO_FIRMS) {
            due("firm", x.nobody(bad, 2), UNKNOWN);
        }
        for (int bad : NOT_0_OR_1) {
            due("what", x.nobody(0, bad), OUTSIDE);
        }
    }

    private void ranked() {
        promise = "18";
        ControlRegister x = new ControlRegister();
        due("nobody", x.ranked(0, 0), NONE);
        x.sellShares(0, 9, 3, 0, 20);
        x.sellShares(0, 9, 1, 0, 20);
        x.sellShares(0, 9, 2, 0, 21);
        x.sellShares(0, 9, 4, 1, 10);
        x.sellShares(0, 9, 0, 1, 2);
        int[] ofFirm0 = {2, 1, 3, NONE, NONE};
        int[] ofFirm1 = {2, 0, 1, 3, NONE};
        for (int i = 0; i < 5; i++) {
            due("firm 0, " + i, x.ranked(0, i), ofFirm0[i]);
            due("firm 1, " + i, x.ranked(1, i), ofFirm1[i]);
        }
        for (int none : new int[] {-1, 4, Integer.MIN_VALUE, Integer.MAX_VALUE}) {
            due("i", x.ranked(1, none), NONE);
        }
        for (int bad : NO_FIRMS) {
            due("firm", x.ranked(bad, -1), UNKNOWN);
        }
    }

    private void owners() {
        promise = "19";
        ControlRegister x = new ControlRegister();
        x.sellShares(0, 9, 1, 0, 25);
        due("25 is not more", x.owners(0), 0);
        x.sellShares(1, 9, 1, 0, 1);
        x.look(1);
        due("26 is", x.owners(0), 2);
        x.sellVotes(1, 9, 3, 0, 60);
        due("and who controls it", x.owners(0), 2 + 8);
        x.rule(2, 26);
        due("26 is not any more", x.owners(0), 8);
        x.rule(2, 25);
        x.sellShares(1, 9, 4, 1, 100);
        due("through a firm", x.owners(1), 2);
        x.sellShares(1, 4, 9, 1, 4);
        due("96 of 26", x.owners(1), 0);
        x.rule(2, 24);
        due("is more than 24", x.owners(1), 2);
        x.sellShares(1, 9, 0, 2, 30);
        x.sellShares(1, 9, 2, 2, 30);
        x.sellShares(1, 9, 3, 2, 40);
        due("three of one firm", x.owners(2), 1 + 4 + 8);
        for (int bad : NO_FIRMS) {
            due("firm", x.owners(bad), UNKNOWN);
        }
    }

    private void circle() {
        promise = "20";
        ControlRegister x = new ControlRegister();
        due("none", x.circle(0), 0);
        x.sellShares(0, 9, 4, 1, 1);
        x.sellShares(0, 9, 5, 2, 1);
        due("a line is no circle", x.circle(1), 0);
        x.sellShares(5, 9, 6, 0, 1);
        x.look(5);
        for (int firm = 0; firm < 3; firm++) {
            due("of three", x.circle(firm), 7);
        }
        x.sellShares(5, 9, 6, 3, 50);
        due("one that is reached alone", x.circle(3), 0);
        due("is not of it", x.circle(0), 7);
        x.sellShares(5, 9, 7, 4, 50);
        x.sellShares(5, 9, 8, 3, 50);
        due("a second one", x.circle(3), 24);
        due("the first one stays", x.circle(2), 7);
        x.sellShares(5, 9, 8, 1, 1);
        due("all in one", x.circle(1), 31);
        x.look(0);
        due("not yet", x.circle(0), 0);
        for (int bad : NO_FIRMS) {
            due("firm", x.circle(bad), UNKNOWN);
        }
    }

    private void images() {
        promise = "21, 22";
        ControlRegister x = new ControlRegister();
        x.sellVotes(3, 9, 0, 0, 60);
        x.look(3);
        x.rule(0, 55);
        x.rule(1, 35);
        x.rule(2, 45);
        due("kept in 1", x.image(1), 1);
        due("which", x.count(9), 2);
        due("0 is not", x.restore(0), STATE);
        x.cancel(0);
        x.veto(8, 2, 2, 1);
        x.veto(9, 2, 2, 1);
        x.look(8);
        x.rule(0, 1);
        x.rule(1, 2);
        x.rule(2, 3);
        due("kept in 0", x.image(0), 1);
        due("both", x.count(9), 3);
        due("back", x.restore(1), 1);
        int[] want = {1, 3, 55, 35, 45, 1, 1, 1};
        for (int what = 0; what < want.length; what++) {
            due("count(" + what + ")", x.count(what), want[what]);
        }
        due("the deal", x.told(0, 5), 60);
        due("control", x.controls(0), 1);
        due("images are of no image", x.count(9), 3);
        x.cancel(0);
        due("the image stays", x.restore(1), 1);
        due("the deal again", x.count(0), 1);
        due("the other one", x.restore(0), 1);
        due("its deals", x.count(0), 2);
        due("its kind", x.told(1, 2), 2);
        due("its day", x.count(1), 8);
        due("its rule", x.count(4), 3);
        x.look(700);
        due("in place of what was kept", x.image(0), 1);
        x.look(1);
        x.restore(0);
        due("the newer day", x.count(1), 700);
        for (int bad : NOT_0_OR_1) {
            due("image", x.image(bad), OUTSIDE);
            due("restore", x.restore(bad), OUTSIDE);
        }
        ControlRegister y = new ControlRegister();
        due("an image of nothing", y.image(0), 1);
        y.sellVotes(0, 9, 0, 0, 60);
        due("control", y.count(7), 1);
        due("back to nothing", y.restore(0), 1);
        due("no control", y.controls(0), 0);
        due("no events", y.count(7), 0);
        y.image(1);
        due("the images are two", y.restore(0), 1);
        due("no deal", y.told(0, 0), UNKNOWN);
    }

    private void count() {
        promise = "23";
        ControlRegister x = new ControlRegister();
        x.veto(9, 0, 0, 1);
        x.veto(3, 0, 0, 1);
        x.veto(9, 0, 0, 0);
        x.veto(0, 0, 0, 0);
        x.veto(999, 0, 0, 0);
        x.look(9);
        due("deals", x.count(0), 5);
        due("day", x.count(1), 9);
        due("done", x.count(5), 4);
        int[] days = {0, 3, 9, 999, NONE, NONE};
        for (int i = 0; i < days.length; i++) {
            due("count(" + (10 + i) + ")", x.count(10 + i), days[i]);
        }
        due("last", x.count(49), NONE);
        x.veto(999, 1, 0, 0);
        due("two of the last day are of one day", x.count(14), NONE);
        x.cancel(5);
        due("rounds", x.count(6), 0);
        due("events", x.count(7), 0);
        for (int bad : new int[] {-1, 50, Integer.MIN_VALUE, Integer.MAX_VALUE}) {
            due("what", x.count(bad), OUTSIDE);
        }
        x.sellShares(9, 9, 4, 1, 60);
        x.sellShares(9, 9, 6, 1, 40);
        x.sellShares(9, 9, 5, 0, 100);
        due("held by one outside, too", x.count(8), 0);
        x.sellShares(9, 9, 5, 2, 99);
        due("99 are not all", x.count(8), 0);
        x.sellShares(9, 9, 5, 2, 1);
        due("all three", x.count(8), 7);
        x.sellShares(9, 9, 5, 3, 100);
        due("one held by these alone is of it", x.count(8), 15);
        // Each one is held by the next, and the last one by the rest: none is locked.
        ControlRegister y = new ControlRegister();
        for (int firm = 0; firm < 4; firm++) {
            y.sellShares(0, 9, 5 + firm, firm, 100);
        }
        due("a line", y.count(8), 0);
        y.sellShares(0, 9, 7, 4, 100);
        due("closed at its end", y.count(8), 31);
    }
}
