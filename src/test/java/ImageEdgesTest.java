/**
 * Promises 21 to 23 at their edges, and what the document says of all calls: a method for each sentence that
 * names an edge.
 */
public final class ImageEdgesTest {
    private static final int UNKNOWN = Run.UNKNOWN, OUTSIDE = Run.OUTSIDE, STATE = Run.STATE, FULL = Run.FULL,
        NO = Run.NO, NONE = Run.NONE, REST = Run.REST;
    private static final int IMAGES = 9;

    private final Check check = new Check();

    private Run sentence(String words) {
        return new Run(check, words);
    }

    public static void main(String[] args) {
        ImageEdgesTest t = new ImageEdgesTest();
        t.imageArguments();
        t.restoreArguments();
        t.restoreOfNothingKept();
        t.imageOfNothing();
        t.imageOfAFullBook();
        t.allThatIsKept();
        t.inPlaceOfWhatWasKept();
        t.theImageStays();
        t.countArguments();
        t.countOfDone();
        t.countOfUnlikeDays();
        t.callsThatAskChangeNothing();
        t.aLongLife();
        t.check.end();
    }

    // ---- promises 21 and 22

    private void imageArguments() {
        Run r = sentence("21: OUTSIDE (0, 1)");
        r.gives(1, "sellVotes", 0, REST, 0, 0, 60);
        r.keepsBeyond(OUTSIDE, 0, 1, 0, "image", 0);
        r.gives(0, "count", IMAGES);
        r.gives(1, "image", 0);
        r.gives(1, "image", 1);
        r.gives(2, "veto", 0, 0, 0, 1);
        r.keepsBeyond(OUTSIDE, 0, 1, 0, "image", 0);
        r.gives(3, "count", IMAGES);
    }

    private void restoreArguments() {
        Run r = sentence("22: OUTSIDE (0, 1), which goes before STATE");
        r.gives(1, "sellVotes", 0, REST, 0, 0, 60);
        r.keepsBeyond(OUTSIDE, 0, 1, 0, "restore", 0);
        r.gives(1, "image", 0);
        r.gives(1, "image", 1);
        r.gives(0, "look", 9);
        r.gives(2, "veto", 5, 0, 0, 1);
        r.keepsBeyond(OUTSIDE, 0, 1, 0, "restore", 0);
        r.gives(1, "restore", 1);
        r.gives(1, "count", 0);
    }

    private void restoreOfNothingKept() {
        for (int k = 0; k < 2; k++) {
            Run r = sentence("22: STATE: nothing was kept in " + k);
            r.keeps(STATE, "restore", k);
            r.gives(1, "sellVotes", 0, REST, 0, 0, 60);
            r.keeps(STATE, "restore", k);
            r.gives(1, "image", 1 - k);
            r.keeps(STATE, "restore", k);
            r.gives(1, "restore", 1 - k);
            r.keeps(STATE, "restore", k);
            r.gives(2 - k, "count", IMAGES);
            r.gives(1, "image", k);
            r.gives(1, "restore", k);
            r.gives(3, "count", IMAGES);
        }
    }

    private void imageOfNothing() {
        Run r = sentence("21: an IMAGE of a new object");
        r.gives(1, "image", 0);
        r.gives(1, "sellVotes", 3, REST, 0, 0, 60);
        r.gives(0, "look", 3);
        r.gives(50, "rule", 0, 1);
        r.gives(30, "rule", 1, 99);
        r.gives(25, "rule", 2, 99);
        r.gives(1, "controls", 0);
        r.gives(1, "count", 7);
        r.gives(1, "restore", 0);
        int[] want = {0, 0, 50, 30, 25, 0, 0, 0, 0, 1, NONE};
        for (int what = 0; what < want.length; what++) {
            r.gives(want[what], "count", what);
        }
        r.gives(0, "controls", 0);
        r.gives(NONE, "event", 0, 0);
        r.keeps(UNKNOWN, "told", 0, 0);
        r.keeps(UNKNOWN, "cancel", 0);
        r.gives(0, "look", 3);
        r.gives(100, "holds", REST, 0, 1);
        r.gives(1, "sellVotes", 3, REST, 1, 0, 100);
    }

    private void imageOfAFullBook() {
        Run r = sentence("21: all DEALS are kept, forty of them");
        for (int deal = 0; deal < 40; deal++) {
            r.gives(deal + 1, "sellShares", 999 - deal, REST, deal % 4, deal % 5, 1 + deal % 7);
        }
        r.gives(1, "image", 1);
        for (int left = 39; left >= 0; left--) {
            r.gives(left, "cancel", 0);
        }
        // Another full book: nothing of it may be left in any place.
        for (int deal = 0; deal < 40; deal++) {
            r.gives(deal + 1, "veto", deal, 8, 4, 1);
        }
        r.gives(1, "restore", 1);
        r.gives(40, "count", 0);
        for (int deal = 0; deal < 40; deal++) {
            r.gives(999 - deal, "told", deal, 0);
            r.gives(deal % 5, "told", deal, 1);
            r.gives(REST, "told", deal, 3);
            r.gives(deal % 4, "told", deal, 4);
            r.gives(1 + deal % 7, "told", deal, 5);
            r.gives(39 - deal, "told", deal, 6);
        }
        r = sentence("22: a full book is full again");
        for (int deal = 0; deal < 40; deal++) {
            r.gives(deal + 1, "sellShares", deal, REST, 0, 0, 2);
        }
        r.gives(1, "image", 0);
        r.gives(39, "cancel", 39);
        r.gives(1, "image", 1);
        r.gives(1, "restore", 0);
        r.keeps(FULL, "veto", 0, 0, 0, 1);
        r.keeps(FULL, "sellShares", 0, REST, 0, 0, 20);
        r.keeps(NO, "sellShares", 0, REST, 0, 0, 21);
        r.gives(1, "restore", 1);
        r.gives(40, "veto", 0, 0, 0, 1);
        r.keeps(FULL, "veto", 0, 0, 0, 1);
    }

    private void allThatIsKept() {
        int[][] changes = {{0, 1}, {0, 99}, {1, 1}, {1, 99}, {2, 1}, {2, 99}};
        int[] atFirst = {50, 30, 25};
        for (int[] change : changes) {
            Run r = sentence("22: HALF, DEEMED and OWNING are as they were then");
            r.gives(1, "image", 0);
            r.gives(atFirst[change[0]], "rule", change[0], change[1]);
            r.gives(1, "image", 1);
            r.gives(1, "restore", 0);
            r.gives(atFirst[change[0]], "count", 2 + change[0]);
            r.gives(1, "restore", 1);
            r.gives(change[1], "count", 2 + change[0]);
        }
        Run r = sentence("22: the DAY that is looked at is as it was then");
        r.gives(1, "sellVotes", 999, REST, 0, 0, 60);
        r.gives(1, "image", 0);
        r.gives(0, "look", 999);
        r.gives(1, "image", 1);
        r.gives(1, "controls", 0);
        r.gives(1, "restore", 0);
        r.gives(0, "controls", 0);
        r.gives(1, "restore", 1);
        r.gives(1, "controls", 0);
        r.gives(999, "look", 0);
        r.gives(0, "controls", 0);

        r = sentence("22: the DEALS are as they were then, and all that follows from them");
        r.gives(1, "sellVotes", 0, REST, 0, 0, 60);
        r.gives(2, "sellShares", 0, REST, 0, 0, 60);
        r.gives(1, "image", 0);
        r.gives(2, "count", 0);
        r.gives(1, "cancel", 0);
        r.gives(0, "cancel", 0);
        r.gives(0, "count", 7);
        r.gives(0, "stake", 0, 0, 0);
        r.gives(1, "restore", 0);
        r.gives(1, "count", 7);
        r.gives(3, "stake", 0, 0, 0);
        r.gives(1, "controls", 0);
    }

    private void inPlaceOfWhatWasKept() {
        for (int k = 0; k < 2; k++) {
            Run r = sentence("21: in place of what was kept there, and there alone");
            r.gives(1, "veto", 1, 0, 0, 1);
            r.gives(1, "image", 0);
            r.gives(1, "image", 1);
            r.gives(2, "veto", 2, 0, 0, 1);
            r.gives(1, "image", k);
            r.gives(3, "veto", 3, 0, 0, 1);
            r.gives(1, "restore", k);
            r.gives(2, "count", 0);
            r.gives(1, "restore", 1 - k);
            r.gives(1, "count", 0);
            r.gives(0, "cancel", 0);
            r.gives(1, "image", k);
            r.gives(1, "restore", 1 - k);
            r.gives(1, "count", 0);
            r.gives(1, "restore", k);
            r.gives(0, "count", 0);
        }
    }

    private void theImageStays() {
        Run r = sentence("22: the IMAGE stays");
        r.gives(1, "sellVotes", 7, REST, 0, 0, 60);
        r.gives(1, "image", 0);
        for (int time = 0; time < 3; time++) {
            r.gives(2, "sellVotes", time, REST, 1, 0, 40);
            r.gives(0, "look", 7 + time);
            r.gives(50, "rule", 0, 99);
            r.gives(1, "restore", 0);
            r.gives(1, "count", 0);
            r.gives(0, "count", 1);
            r.gives(50, "count", 2);
            r.gives(7, "told", 0, 0);
            r.gives(0, "cancel", 0);
            r.gives(1, "restore", 0);
            r.gives(60, "told", 0, 5);
            r.gives(1, "count", IMAGES);
        }
        r = sentence("22: which IMAGES are kept is not kept in an IMAGE");
        r.gives(1, "image", 0);
        r.gives(1, "image", 1);
        r.gives(1, "restore", 0);
        r.gives(3, "count", IMAGES);
        r.gives(1, "restore", 1);
        r.gives(3, "count", IMAGES);
    }

    // ---- promise 23

    private void countArguments() {
        Run r = sentence("23: OUTSIDE: what (0 to 49)");
        r.keepsBeyond(OUTSIDE, 0, 49, 0, "count", 0);
        r.gives(0, "count", 0);
        r.gives(NONE, "count", 49);
        for (int deal = 0; deal < 40; deal++) {
            r.gives(deal + 1, "veto", deal, 0, 0, 1);
        }
        r.keepsBeyond(OUTSIDE, 0, 49, 0, "count", 0);
        r.gives(40, "count", 0);
        r.gives(39, "count", 49);

        r = sentence("23: which IMAGES are kept, a set: none, the first, both");
        r.gives(0, "count", IMAGES);
        r.gives(1, "image", 0);
        r.gives(1, "count", IMAGES);
        r.gives(1, "image", 0);
        r.gives(1, "count", IMAGES);
        r.gives(1, "image", 1);
        r.gives(3, "count", IMAGES);
        r = sentence("23: which IMAGES are kept, a set: the second alone");
        r.gives(1, "image", 1);
        r.gives(2, "count", IMAGES);
    }

    private void countOfDone() {
        Run r = sentence("23: how many DEALS are DONE by the end of that DAY, none to forty");
        r.gives(0, "count", 5);
        for (int deal = 0; deal < 40; deal++) {
            r.gives(deal + 1, "veto", 999 - 20 * deal, 0, 0, 1);
        }
        // The DAYS are 219, 239, .. 999.
        int[][] want = {{0, 0}, {218, 0}, {219, 1}, {220, 1}, {238, 1}, {239, 2}, {979, 39}, {998, 39}, {999, 40}};
        int before = 0;
        for (int[] row : want) {
            r.gives(before, "look", row[0]);
            r.gives(row[1], "count", 5);
            r.gives(40, "count", 0);
            before = row[0];
        }
        r = sentence("23: how many DEALS are DONE: those of DAY 0 at first");
        r.gives(1, "veto", 0, 0, 0, 1);
        r.gives(2, "veto", 1, 0, 0, 1);
        r.gives(3, "veto", 0, 0, 0, 1);
        r.gives(2, "count", 5);
        r.gives(0, "look", 1);
        r.gives(3, "count", 5);
    }

    private void countOfUnlikeDays() {
        Run r = sentence("23: the i-th of all unlike DAYS of DEALS: NONE, without a DEAL");
        for (int what = 10; what < 50; what++) {
            r.gives(NONE, "count", what);
        }
        r = sentence("23: the i-th of all unlike DAYS of DEALS: forty, rising");
        for (int deal = 0; deal < 40; deal++) {
            r.gives(deal + 1, "veto", deal == 0 ? 999 : 39 - deal, 0, 0, 1);
        }
        for (int i = 0; i < 40; i++) {
            r.gives(i == 39 ? 999 : i, "count", 10 + i);
        }
        r.keeps(FULL, "veto", 500, 0, 0, 1);
        r.gives(999, "count", 49);
        r.gives(39, "cancel", 39);
        r.gives(1, "count", 10);
        r.gives(999, "count", 48);
        r.gives(NONE, "count", 49);
        r = sentence("23: the i-th of all unlike DAYS of DEALS: forty of one DAY");
        for (int deal = 0; deal < 40; deal++) {
            r.gives(deal + 1, "veto", 0, 0, 0, 1);
        }
        r.gives(0, "count", 10);
        r.gives(NONE, "count", 11);
        r.gives(NONE, "count", 49);
        r = sentence("23: the i-th of all unlike DAYS of DEALS: the first and the last DAY, each twice");
        r.gives(1, "veto", 999, 0, 0, 1);
        r.gives(2, "veto", 0, 0, 0, 1);
        r.gives(3, "veto", 999, 0, 0, 1);
        r.gives(4, "veto", 0, 0, 0, 1);
        r.gives(0, "count", 10);
        r.gives(999, "count", 11);
        r.gives(NONE, "count", 12);
    }

    // ---- all calls

    private void callsThatAskChangeNothing() {
        Run r = sentence("Terms: a call that asks changes nothing");
        r.gives(1, "sellVotes", 3, REST, 0, 0, 51);
        r.gives(2, "sellVotes", 5, REST, 4, 1, 40);
        r.gives(3, "sellVotes", 9, 0, REST, 0, 51);
        r.gives(4, "sellShares", 3, REST, 0, 0, 60);
        r.gives(1, "image", 0);
        r.gives(0, "look", 5);
        r.keeps(1, "told", 2, 2);
        r.keeps(51, "holds", 0, 0, 1);
        r.keeps(3, "controls", 0);
        r.keeps(1, "how", 0, 1, 4);
        r.keeps(1, "above", 1, 0);
        r.keeps(9, "when", 0, 1, 0);
        r.keeps(22, "fewest", 0, 0, 0);
        r.keeps(41, "fewest", 1, 1, 1);
        r.keeps(5, "event", 1, 0);
        r.keeps(3, "stake", 0, 0, 0);
        r.keeps(1, "nobody", 0, 1);
        r.keeps(0, "ranked", 0, 0);
        r.keeps(1, "owners", 0);
        r.keeps(0, "circle", 0);
        r.keeps(5, "count", 7);
    }

    private void aLongLife() {
        Run r = sentence("An object is used for at most 512 calls: DEALS that come and go");
        for (int deal = 0; deal < 40; deal++) {
            r.gives(deal + 1, "sellVotes", deal, REST, 0, 0, 1);
        }
        for (int more = 0; more < 235; more++) {
            r.gives(39, "cancel", 0);
            r.gives(40, "sellVotes", 40 + more, REST, 0, 0, 1);
        }
        r.gives(0, "look", 999);
        r.gives(40, "holds", 0, 0, 1);
        r = sentence("An object is used for at most 512 calls: the dearest question");
        r.gives(30, "rule", 1, 1);
        r.gives(1, "sellVotes", 0, REST, 0, 0, 100);
        for (int call = 2; call < 512; call++) {
            r.gives(100, "fewest", 0, 0, 0);
        }
    }
}
