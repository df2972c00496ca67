/** Promises 10 to 15 and the document's section 2 at their edges: a method for each sentence that names one. */
public final class ControlEdgesTest {
    private static final int UNKNOWN = Run.UNKNOWN, OUTSIDE = Run.OUTSIDE, NONE = Run.NONE, REST = Run.REST;
    private static final int HALF = 0, DEEMED = 1;
    private static final int TO_SELL = 0, TO_BUY = 1;
    private static final int WAY = 0, ROUND = 1, BLOCK = 2, WITNESS = 3, CHAIN = 4;

    private final Check check = new Check();

    private Run sentence(String words) {
        return new Run(check, words);
    }

    public static void main(String[] args) {
        ControlEdgesTest t = new ControlEdgesTest();
        t.greaterThanHalf();
        t.noLessThanDeemed();
        t.greaterThanEachOther();
        t.theRestStandsAgainstNobody();
        t.firmsOfTheSetStandAgainstNobody();
        t.eachHoldersVotesOnce();
        t.vetoes();
        t.rounds();
        t.rings();
        t.witness();
        t.chain();
        t.controlsArguments();
        t.howArguments();
        t.how();
        t.above();
        t.when();
        t.fewestArguments();
        t.fewestToSell();
        t.fewestToBuy();
        t.eventArguments();
        t.events();
        t.manyEvents();
        t.check.end();
    }

    // ---- section 2, (a) and (b)

    private void greaterThanHalf() {
        for (int half : new int[] {1, 2, 49, 50, 98, 99}) {
            Run r = sentence("Terms 2 (b): the BLOCK is greater than HALF (1 to 99), HALF is " + half);
            r.gives(50, "rule", HALF, half);
            r.gives(30, "rule", DEEMED, 99);
            r.gives(1, "sellVotes", 0, REST, 0, 0, half);
            // 99 are no less than DEEMED, and so do otherwise.
            r.gives(half == 99 ? 2 : 0, "how", 0, 0, WAY);
            r.gives(half == 99 ? 1 : 0, "controls", 0);
            r.gives(2, "sellVotes", 0, REST, 0, 0, 1);
            r.gives(1, "how", 0, 0, WAY);
            r.gives(1, "controls", 0);
        }
        Run r = sentence("Terms 2 (b): greater than HALF, though another one has more");
        r.gives(50, "rule", HALF, 20);
        r.gives(1, "sellVotes", 0, REST, 0, 0, 21);
        r.gives(2, "sellVotes", 0, REST, 1, 0, 79);
        r.gives(1, "controls", 0);
        r.gives(1, "controls", 1);
        r.gives(3, "sellVotes", 0, 0, 1, 0, 1);
        r.gives(0, "controls", 0);
    }

    private void noLessThanDeemed() {
        for (int deemed : new int[] {1, 2, 29, 30, 31, 98, 99}) {
            Run r = sentence("Terms 2 (b): no less than DEEMED (1 to 99), DEEMED is " + deemed);
            r.gives(50, "rule", HALF, 99);
            r.gives(30, "rule", DEEMED, deemed);
            r.gives(0, "controls", 0);
            r.gives(1, "sellVotes", 0, REST, 1, 1, 1);
            if (deemed > 1) {
                r.gives(2, "sellVotes", 0, REST, 0, 0, deemed - 1);
                r.gives(0, "how", 0, 0, WAY);
                r.gives(0, "controls", 0);
            } else {
                r.gives(2, "veto", 0, 1, 1, 1);
            }
            r.gives(3, "sellVotes", 0, REST, 0, 0, 1);
            r.gives(2, "how", 0, 0, WAY);
            r.gives(1, "controls", 0);
        }
    }

    private void greaterThanEachOther() {
        for (int x : new int[] {0, 3, 4, 7}) {
            for (int other = 0; other < 8; other++) {
                if (other == x) {
                    continue;
                }
                Run r = sentence("Terms 2 (b): greater than those of each PERSON and FIRM, " + x + " and " + other);
                r.gives(1, "sellVotes", 0, REST, x, 4, 40);
                r.gives(16, "controls", x);
                r.gives(2, "sellVotes", 0, REST, other, 4, 39);
                r.gives(16, "controls", x);
                r.gives(0, "controls", other);
                r.gives(3, "sellVotes", 0, REST, other, 4, 1);
                r.gives(0, "controls", x);
                r.gives(0, "controls", other);
                r.gives(4, "sellVotes", 0, REST, other, 4, 1);
                r.gives(0, "controls", x);
                r.gives(16, "controls", other);
            }
        }
        Run r = sentence("Terms 2 (b): than those of each, not than those of all");
        r.gives(1, "sellVotes", 0, REST, 0, 0, 30);
        for (int other = 1; other < 4; other++) {
            r.gives(other + 1, "sellVotes", 0, REST, other, 0, 23);
        }
        r.gives(1, "controls", 0);
    }

    private void theRestStandsAgainstNobody() {
        Run r = sentence("Terms 2 (b): the REST's VOTES stand against nobody");
        r.gives(1, "sellVotes", 0, REST, 0, 0, 30);
        r.gives(70, "holds", REST, 0, 1);
        r.gives(1, "controls", 0);
        r.gives(30, "rule", DEEMED, 1);
        r.gives(2, "sellVotes", 0, REST, 1, 1, 1);
        r.gives(99, "holds", REST, 1, 1);
        r.gives(2, "controls", 1);
        r.gives(0, "controls", 2);
    }

    private void firmsOfTheSetStandAgainstNobody() {
        Run r = sentence("Terms 2 (b): a FIRM of the set counts for x, and not against it");
        r.gives(1, "sellVotes", 0, REST, 0, 0, 51);
        r.gives(2, "sellVotes", 0, REST, 4, 1, 35);
        r.gives(3, "sellVotes", 0, REST, 0, 1, 1);
        r.gives(4, "sellVotes", 0, REST, 1, 1, 35);
        r.gives(36, "how", 0, 1, BLOCK);
        r.gives(3, "controls", 0);
        r.gives(0, "controls", 4);
        r.gives(5, "sellVotes", 0, REST, 1, 1, 1);
        r.gives(1, "controls", 0);
        r.gives(36, "how", 0, 1, BLOCK);
        // Without control of it, the firm stands against its own shareholder.
        r = sentence("Terms 2 (b): a FIRM that is not in the set stands against x");
        r.gives(1, "sellVotes", 0, REST, 0, 0, 29);
        r.gives(2, "sellVotes", 0, REST, 4, 1, 35);
        r.gives(3, "sellVotes", 0, REST, 0, 1, 35);
        r.gives(0, "controls", 0);
        r.gives(4, "sellVotes", 0, REST, 0, 0, 1);
        r.gives(3, "controls", 0);
        r.gives(2, "how", 0, 1, ROUND);
    }

    private void eachHoldersVotesOnce() {
        Run r = sentence("Terms 2: each HOLDER's once, though x may CONTROL itself");
        r.gives(50, "rule", HALF, 59);
        r.gives(30, "rule", DEEMED, 99);
        r.gives(1, "sellVotes", 0, REST, 4, 1, 60);
        r.gives(2, "sellVotes", 0, REST, 5, 0, 60);
        r.gives(3, "sellVotes", 0, REST, 4, 2, 30);
        r.gives(3, "controls", 4);
        r.gives(30, "how", 4, 2, BLOCK);
        r.gives(60, "how", 4, 1, BLOCK);
        r.gives(4, "sellVotes", 0, REST, 5, 2, 29);
        r.gives(3, "controls", 4);
        r.gives(59, "how", 4, 2, BLOCK);
        r.gives(5, "sellVotes", 0, REST, 5, 2, 1);
        r.gives(7, "controls", 4);
        r.gives(7, "controls", 5);
    }

    private void vetoes() {
        Run r = sentence("Terms 2 (a): x itself may have a VETO");
        r.gives(1, "sellVotes", 0, REST, 0, 0, 100);
        r.gives(2, "veto", 0, 0, 0, 1);
        r.gives(1, "controls", 0);

        for (int other = 0; other < 9; other++) {
            for (int x : new int[] {0, 5}) {
                if (other != x) {
                    r = sentence("Terms 2 (a): nobody else has a VETO in f, " + x + " and " + other);
                    r.gives(1, "sellVotes", 0, REST, x, 0, 100);
                    r.gives(1, "controls", x);
                    r.gives(2, "veto", 0, other, 0, 1);
                    r.gives(0, "controls", x);
                    r.gives(3, "veto", 0, x, 0, 1);
                    r.gives(0, "controls", x);
                    r.gives(4, "veto", 0, other, 0, 0);
                    r.gives(1, "controls", x);
                }
            }
        }

        r = sentence("Terms 2 (a): a VETO in another FIRM is no matter");
        r.gives(1, "sellVotes", 0, REST, 0, 0, 100);
        r.gives(2, "veto", 0, 1, 1, 1);
        r.gives(1, "controls", 0);
        r.gives(3, "veto", 1, 1, 0, 1);
        r.gives(1, "controls", 0);

        r = sentence("Terms 2 (a): FIRMS of that set may, those that x gets in the same ROUND may not yet");
        r.gives(1, "sellVotes", 0, REST, 0, 0, 51);
        r.gives(2, "sellVotes", 0, REST, 0, 1, 51);
        r.gives(3, "veto", 0, 4, 1, 1);
        r.gives(3, "controls", 0);
        r.gives(1, "how", 0, 0, ROUND);
        r.gives(2, "how", 0, 1, ROUND);
        r.gives(4, "veto", 0, 5, 0, 1);
        r.gives(0, "controls", 0);
        r.gives(5, "veto", 0, 4, 1, 0);
        r.gives(3, "controls", 0);
        r.gives(2, "how", 0, 0, ROUND);

        r = sentence("Terms 2 (a): a VETO of f in itself stands against all but f");
        r.gives(1, "sellVotes", 0, REST, 5, 0, 60);
        r.gives(2, "sellVotes", 0, REST, 4, 1, 60);
        r.gives(3, "veto", 0, 4, 0, 1);
        r.gives(3, "controls", 4);
        r.gives(0, "controls", 5);
        r.gives(1, "above", 0, 3);
        r.gives(0, "above", 1, 3);
    }

    // ---- section 2, rounds, witness, chain

    private void rounds() {
        Run r = sentence("Terms 2: at first x CONTROLS nothing; a ROUND in which there are none is the end");
        r.gives(0, "count", 6);
        r.gives(NONE, "how", 0, 0, ROUND);
        r.gives(1, "sellVotes", 0, REST, 4, 1, 60);
        r.gives(1, "count", 6);
        r.gives(0, "controls", 0);
        r.gives(2, "controls", 4);

        r = sentence("Terms 2: as many ROUNDS as there are FIRMS");
        fiveRounds(r);
        r.gives(5, "count", 6);
        r.gives(31, "controls", 3);
        for (int firm = 0; firm < 5; firm++) {
            r.gives(5 - firm, "how", 3, firm, ROUND);
            r.gives(51, "how", 3, firm, BLOCK);
        }

        r = sentence("Terms 2: all FIRMS in one ROUND");
        for (int firm = 0; firm < 5; firm++) {
            r.gives(firm + 1, "sellVotes", 0, REST, 0, firm, 51);
        }
        r.gives(31, "controls", 0);
        r.gives(1, "count", 6);

        r = sentence("Terms 2: by those that it CONTROLS before that ROUND, not by those of the ROUND itself");
        r.gives(1, "sellVotes", 0, REST, 0, 0, 51);
        r.gives(2, "sellVotes", 0, REST, 4, 1, 51);
        r.gives(3, "sellVotes", 0, REST, 5, 2, 51);
        r.gives(1, "how", 0, 0, ROUND);
        r.gives(2, "how", 0, 1, ROUND);
        r.gives(3, "how", 0, 2, ROUND);
        r.gives(2, "how", 4, 2, ROUND);
    }

    /** Person 3 over firm 4, that over firm 3, and so on down to firm 0. */
    private static void fiveRounds(Run r) {
        r.gives(1, "sellVotes", 0, REST, 3, 4, 51);
        for (int firm = 0; firm < 4; firm++) {
            r.gives(firm + 2, "sellVotes", 0, REST, 5 + firm, firm, 51);
        }
    }

    private void rings() {
        Run r = sentence("Terms 2: a FIRM that CONTROLS itself is a RING");
        r.gives(0, "above", 0, 3);
        for (int firm = 0; firm < 5; firm++) {
            r.gives(firm + 1, "sellVotes", firm, REST, 4 + (firm + 1) % 5, firm, 60);
        }
        r.gives(0, "look", 3);
        for (int firm = 0; firm < 5; firm++) {
            r.gives(0, "above", firm, 3);
        }
        r.gives(4, "count", 6);
        r.gives(3, "look", 4);
        for (int firm = 0; firm < 5; firm++) {
            r.gives(1, "above", firm, 3);
            r.gives(31, "controls", 4 + firm);
            r.gives(31, "above", firm, 1);
            r.gives(0, "above", firm, 0);
            r.gives(5, "how", 4 + firm, firm, ROUND);
            r.gives(31 - (1 << firm), "how", 4 + firm, firm, CHAIN);
        }
        r.gives(5, "count", 6);
    }

    private void witness() {
        Run r = sentence("11: the WITNESS: of the fewest FIRMS, of none if these do");
        r.gives(1, "sellVotes", 0, REST, 0, 0, 51);
        r.gives(0, "how", 0, 0, WITNESS);
        r.gives(2, "sellVotes", 0, REST, 0, 1, 51);
        r.gives(3, "sellVotes", 0, REST, 4, 1, 49);
        r.gives(0, "how", 0, 1, WITNESS);

        r = sentence("11: the WITNESS: all the others, if no fewer do");
        r.gives(30, "rule", DEEMED, 99);
        for (int firm = 0; firm < 4; firm++) {
            r.gives(2 * firm + 1, "sellVotes", 0, REST, 0, firm, 51);
            r.gives(2 * firm + 2, "sellVotes", 0, REST, 4 + firm, 4, 13);
        }
        r.gives(15, "how", 0, 4, WITNESS);
        r.gives(15, "how", 0, 4, CHAIN);
        r.gives(9, "sellVotes", 0, REST, 0, 4, 12);
        r.gives(7, "how", 0, 4, WITNESS);
        r.gives(10, "sellVotes", 0, REST, 0, 4, 13);
        r.gives(3, "how", 0, 4, WITNESS);
        r.gives(11, "sellVotes", 0, REST, 0, 4, 13);
        r.gives(1, "how", 0, 4, WITNESS);
        r.gives(12, "sellVotes", 0, 4, REST, 4, 1);
        r.gives(2, "how", 0, 4, WITNESS);

        r = sentence("11: the WITNESS: fewer FIRMS go before a lesser number");
        r.gives(30, "rule", DEEMED, 99);
        for (int firm = 0; firm < 4; firm++) {
            r.gives(firm + 1, "sellVotes", 0, REST, 1, firm, 51);
        }
        r.gives(5, "sellVotes", 0, REST, 4, 4, 24);
        r.gives(6, "sellVotes", 0, REST, 5, 4, 25);
        r.gives(7, "sellVotes", 0, REST, 7, 4, 51);
        r.gives(8, "how", 1, 4, WITNESS);
        r.gives(8, "sellVotes", 0, 7, 5, 4, 24);
        r.gives(3, "how", 1, 4, WITNESS);
        r.gives(9, "sellVotes", 0, 5, 6, 4, 23);
        // 24, 26, 23 and 27: 0 and 3 have 51, 0 and 1 have but 50.
        r.gives(9, "how", 1, 4, WITNESS);

        r = sentence("11: the WITNESS: only of those before the ROUND in which it got it");
        r.gives(1, "sellVotes", 0, REST, 0, 0, 31);
        r.gives(2, "sellVotes", 0, REST, 4, 1, 60);
        r.gives(3, "sellVotes", 0, REST, 5, 0, 20);
        r.gives(0, "how", 0, 0, WITNESS);
        r.gives(1, "how", 0, 1, WITNESS);

        r = sentence("11: the WITNESS: one of the same ROUND, that would do alone, is not of it");
        r.gives(1, "sellVotes", 0, REST, 0, 0, 51);
        r.gives(2, "sellVotes", 0, REST, 0, 1, 51);
        r.gives(3, "sellVotes", 0, REST, 4, 3, 51);
        r.gives(4, "sellVotes", 0, REST, 4, 2, 26);
        r.gives(5, "sellVotes", 0, REST, 5, 2, 26);
        r.gives(6, "sellVotes", 0, REST, 7, 2, 48);
        r.gives(2, "how", 0, 2, ROUND);
        r.gives(2, "how", 0, 3, ROUND);
        r.gives(3, "how", 0, 2, WITNESS);

        for (int last = 0; last < 2; last++) {
            r = sentence("11: the WITNESS: FIRM 0, got " + (last == 0 ? "later" : "never") + ", is not of it");
            r.gives(1, "sellVotes", 0, REST, 1, 3, 51);
            r.gives(2, "sellVotes", 0, REST, 1, 4, 51);
            r.gives(3, "sellVotes", 0, REST, 7, 2, 26);
            r.gives(4, "sellVotes", 0, REST, 8, 2, 26);
            r.gives(5, "sellVotes", 0, REST, 4, 2, 48);
            r.gives(6, "sellVotes", 0, REST, last == 0 ? 6 : 3, 0, 51);
            r.gives(last == 0 ? 3 : NONE, "how", 1, 0, ROUND);
            r.gives(24, "how", 1, 2, WITNESS);
        }

        r = sentence("11: the WITNESS: NONE: it does not CONTROL it");
        r.gives(1, "sellVotes", 0, REST, 0, 0, 29);
        r.gives(NONE, "how", 0, 0, WITNESS);
        r.gives(NONE, "how", 0, 1, WITNESS);
        r.gives(NONE, "how", 8, 4, WITNESS);
        r.gives(2, "sellVotes", 0, REST, 0, 0, 1);
        r.gives(0, "how", 0, 0, WITNESS);
    }

    private void chain() {
        Run r = sentence("11: the CHAIN, of none and of all the others");
        fiveRounds(r);
        int[] chains = {30, 28, 24, 16, 0};
        int[] witnesses = {2, 4, 8, 16, 0};
        for (int firm = 0; firm < 5; firm++) {
            r.gives(witnesses[firm], "how", 3, firm, WITNESS);
            r.gives(chains[firm], "how", 3, firm, CHAIN);
        }
        r.gives(14, "how", 8, 0, CHAIN);
        r.gives(NONE, "how", 0, 4, CHAIN);
        r.gives(NONE, "how", 4, 4, CHAIN);

        r = sentence("11: the CHAIN leaves out what no WITNESS of it needs");
        r.gives(1, "sellVotes", 0, REST, 0, 0, 51);
        r.gives(2, "sellVotes", 0, REST, 0, 1, 51);
        r.gives(3, "sellVotes", 0, REST, 4, 2, 51);
        r.gives(4, "sellVotes", 0, REST, 6, 3, 51);
        r.gives(15, "controls", 0);
        r.gives(5, "how", 0, 3, CHAIN);

        r = sentence("11: the CHAIN leaves out another way of as many ROUNDS");
        r.gives(1, "sellVotes", 0, REST, 0, 0, 51);
        r.gives(2, "sellVotes", 0, REST, 0, 1, 51);
        r.gives(3, "sellVotes", 0, REST, 4, 2, 51);
        r.gives(4, "sellVotes", 0, REST, 5, 3, 51);
        r.gives(5, "sellVotes", 0, REST, 6, 4, 51);
        r.gives(31, "controls", 0);
        r.gives(5, "how", 0, 4, CHAIN);
        r.gives(6, "sellVotes", 0, 6, 7, 4, 51);
        r.gives(10, "how", 0, 4, CHAIN);
    }

    // ---- promises 10 to 13

    private void controlsArguments() {
        Run r = sentence("10: UNKNOWN: the HOLDER (0 to 8; the REST, too)");
        r.gives(1, "sellVotes", 0, REST, 0, 0, 60);
        r.gives(2, "sellVotes", 0, REST, 8, 1, 60);
        r.keepsBeyond(UNKNOWN, 0, 8, 0, "controls", 0);
        r.keeps(UNKNOWN, "controls", REST);
        r.gives(1, "controls", 0);
        r.gives(2, "controls", 8);
        r = sentence("10: the set of none, of the first, of the last, of all");
        r.gives(0, "controls", 1);
        r.gives(1, "sellVotes", 0, REST, 1, 0, 60);
        r.gives(1, "controls", 1);
        r.gives(2, "sellVotes", 0, REST, 2, 4, 60);
        r.gives(16, "controls", 2);
        for (int firm = 1; firm < 4; firm++) {
            r.gives(firm + 2, "sellVotes", 0, REST, 1, firm, 60);
        }
        r.gives(15, "controls", 1);
        r.gives(6, "sellVotes", 0, 2, 1, 4, 60);
        r.gives(31, "controls", 1);
        r.gives(0, "controls", 2);
    }

    private void howArguments() {
        Run r = sentence("11: UNKNOWN: the HOLDER (0 to 8; the REST, too)");
        r.gives(1, "sellVotes", 0, REST, 0, 0, 60);
        r.keepsBeyond(UNKNOWN, 0, 8, 0, "how", 0, 0, 0);
        r.keepsBeyond(UNKNOWN, 0, 8, 0, "how", 0, 0, 5);
        r.keeps(UNKNOWN, "how", REST, 0, 2);
        r = sentence("11: UNKNOWN: the FIRM (0 to 4)");
        r.gives(1, "sellVotes", 0, REST, 0, 4, 60);
        r.keepsBeyond(UNKNOWN, 0, 4, 1, "how", 0, 0, 0);
        r.keepsBeyond(UNKNOWN, 0, 4, 1, "how", 0, 0, 5);
        r = sentence("11: OUTSIDE: what (0 to 4)");
        r.gives(1, "sellVotes", 0, REST, 0, 4, 60);
        r.keepsBeyond(OUTSIDE, 0, 4, 2, "how", 0, 4, 0);
        r.keepsBeyond(OUTSIDE, 0, 4, 2, "how", 8, 4, 0);
    }

    private void how() {
        Run r = sentence("11: 0 if it does not CONTROL it; the ROUND, the WITNESS, the CHAIN: NONE");
        int[] none = {0, NONE, 0, NONE, NONE};
        for (int what = 0; what < 5; what++) {
            r.gives(none[what], "how", 0, 0, what);
            r.gives(none[what], "how", 8, 4, what);
            r.gives(none[what], "how", 4, 0, what);
        }
        r = sentence("11: 1 if the BLOCK in the end is greater than HALF, 2 if it does otherwise");
        r.gives(1, "sellVotes", 0, REST, 0, 0, 40);
        r.gives(2, "sellVotes", 0, REST, 0, 1, 60);
        r.gives(3, "sellVotes", 0, REST, 5, 0, 10);
        r.gives(50, "how", 0, 0, BLOCK);
        r.gives(2, "how", 0, 0, WAY);
        r.gives(4, "sellVotes", 0, REST, 5, 0, 1);
        r.gives(51, "how", 0, 0, BLOCK);
        r.gives(1, "how", 0, 0, WAY);
        r.gives(1, "how", 0, 0, ROUND);
        r = sentence("11: the BLOCK of none and of all 100");
        r.gives(0, "how", 2, 3, BLOCK);
        r.gives(1, "sellVotes", 0, REST, 2, 3, 100);
        r.gives(100, "how", 2, 3, BLOCK);
        r.gives(0, "how", 3, 3, BLOCK);
        r.gives(2, "veto", 0, 3, 3, 1);
        r.gives(0, "how", 2, 3, WAY);
        r.gives(100, "how", 2, 3, BLOCK);
    }

    private void above() {
        Run r = sentence("12: UNKNOWN: the FIRM (0 to 4)");
        r.gives(1, "veto", 0, 0, 0, 1);
        r.keepsBeyond(UNKNOWN, 0, 4, 0, "above", 0, 0);
        r.keepsBeyond(UNKNOWN, 0, 4, 0, "above", 0, 4);
        r = sentence("12: OUTSIDE: what (0 to 3)");
        r.gives(1, "veto", 0, 0, 0, 1);
        r.keepsBeyond(OUTSIDE, 0, 3, 1, "above", 0, 0);
        r.keepsBeyond(OUTSIDE, 0, 3, 1, "above", 4, 0);
        r = sentence("12: nobody yet");
        for (int firm = 0; firm < 5; firm++) {
            for (int what = 0; what < 4; what++) {
                r.gives(0, "above", firm, what);
            }
        }
        r = sentence("12: all PERSONS, and all FIRMS but itself; bit i tells of PERSON i, of FIRM i");
        r.gives(50, "rule", HALF, 1);
        for (int x = 0; x < 8; x++) {
            r.gives(x + 1, "sellVotes", 0, REST, x, 4, 2);
            r.gives(x < 4 ? (2 << x) - 1 : 15, "above", 4, 0);
            r.gives(x < 4 ? 0 : (2 << x - 4) - 1, "above", 4, 1);
        }
        r.gives(0, "above", 4, 3);
        r.gives(9, "sellVotes", 0, REST, 8, 3, 2);
        r.gives(31, "above", 4, 1);
        r.gives(1, "above", 4, 3);
        r = sentence("12: bit i tells of HOLDER i that has a VETO");
        r.gives(1, "veto", 0, 0, 4, 1);
        r.gives(1, "above", 4, 2);
        r.gives(2, "veto", 0, 8, 4, 1);
        r.gives(257, "above", 4, 2);
        r.gives(3, "veto", 0, 4, 4, 1);
        r.gives(273, "above", 4, 2);
        r.gives(0, "above", 0, 2);
    }

    private void when() {
        Run r = sentence("13: UNKNOWN: the HOLDER (0 to 8; the REST, too)");
        r.gives(1, "sellVotes", 5, REST, 0, 0, 60);
        r.keepsBeyond(UNKNOWN, 0, 8, 0, "when", 0, 0, 1);
        r.keepsBeyond(UNKNOWN, 0, 8, 0, "when", 0, 0, 2);
        r.keeps(UNKNOWN, "when", REST, 0, 0);
        r = sentence("13: UNKNOWN: the FIRM (0 to 4)");
        r.gives(1, "sellVotes", 5, REST, 8, 3, 60);
        r.keepsBeyond(UNKNOWN, 0, 4, 1, "when", 8, 0, 1);
        r.keepsBeyond(UNKNOWN, 0, 4, 1, "when", 8, 0, 2);
        r = sentence("13: OUTSIDE: is (0, 1)");
        r.gives(1, "sellVotes", 5, REST, 0, 0, 60);
        r.keepsBeyond(OUTSIDE, 0, 1, 2, "when", 0, 0, 1);

        r = sentence("13: NONE, without a DEAL; and the DAY that is looked at itself");
        int before = 0;
        for (int day : new int[] {0, 1, 500, 998, 999}) {
            r.gives(before, "look", day);
            r.gives(NONE, "when", 0, 0, 1);
            r.gives(day, "when", 0, 0, 0);
            r.gives(NONE, "when", 8, 4, 1);
            r.gives(day, "when", 8, 4, 0);
            before = day;
        }

        r = sentence("13: from a DAY before all DEALS");
        r.gives(1, "sellVotes", 10, REST, 0, 0, 60);
        r.gives(10, "when", 0, 0, 1);
        r.gives(0, "when", 0, 0, 0);
        r.gives(0, "look", 9);
        r.gives(10, "when", 0, 0, 1);
        r.gives(9, "when", 0, 0, 0);
        r.gives(9, "look", 10);
        r.gives(10, "when", 0, 0, 1);
        r.gives(NONE, "when", 0, 0, 0);

        r = sentence("13: the first DAY, from the one that is looked at up to 999");
        r.gives(1, "sellVotes", 0, REST, 0, 0, 60);
        r.gives(2, "sellVotes", 1, 0, REST, 0, 60);
        r.gives(3, "sellVotes", 500, REST, 0, 0, 60);
        r.gives(4, "sellVotes", 998, 0, REST, 0, 60);
        r.gives(5, "sellVotes", 999, REST, 0, 0, 60);
        int[][] want = {{0, 0, 1}, {1, 500, 1}, {2, 500, 2}, {499, 500, 499}, {500, 500, 998}, {501, 501, 998},
            {997, 997, 998}, {998, 999, 998}, {999, 999, NONE}};
        before = 0;
        for (int[] row : want) {
            r.gives(before, "look", row[0]);
            r.gives(row[1], "when", 0, 0, 1);
            r.gives(row[2], "when", 0, 0, 0);
            before = row[0];
        }
        r.gives(6, "sellVotes", 999, 0, REST, 0, 60);
        r.gives(NONE, "when", 0, 0, 1);
        r.gives(999, "when", 0, 0, 0);
        r.gives(999, "look", 501);
        r.gives(501, "when", 0, 0, 1);
        r.gives(998, "when", 0, 0, 0);
    }

    // ---- promise 14

    private void fewestArguments() {
        Run r = sentence("14: UNKNOWN: the HOLDER (0 to 8; the REST, too)");
        r.gives(1, "sellVotes", 0, REST, 0, 0, 60);
        r.keepsBeyond(UNKNOWN, 0, 8, 0, "fewest", 0, 0, TO_SELL);
        r.keepsBeyond(UNKNOWN, 0, 8, 0, "fewest", 0, 0, 2);
        r.keeps(UNKNOWN, "fewest", REST, 0, TO_SELL);
        r.keeps(UNKNOWN, "fewest", REST, 0, TO_BUY);
        r = sentence("14: UNKNOWN: the FIRM (0 to 4)");
        r.gives(1, "sellVotes", 0, REST, 8, 0, 60);
        r.keepsBeyond(UNKNOWN, 0, 4, 1, "fewest", 8, 0, TO_BUY);
        r.keepsBeyond(UNKNOWN, 0, 4, 1, "fewest", 8, 0, -1);
        r = sentence("14: OUTSIDE: way (0, 1)");
        r.gives(1, "sellVotes", 0, REST, 0, 0, 60);
        r.keepsBeyond(OUTSIDE, 0, 1, 2, "fewest", 0, 0, 0);
        r.keepsBeyond(OUTSIDE, 0, 1, 2, "fewest", 8, 4, 0);
    }

    private void fewestToSell() {
        Run r = sentence("14: FEWEST to SELL: 0, x does not CONTROL f");
        r.keeps(0, "fewest", 0, 0, TO_SELL);
        r.keeps(0, "fewest", 4, 0, TO_SELL);
        r.gives(1, "sellVotes", 0, REST, 0, 0, 29);
        r.keeps(0, "fewest", 0, 0, TO_SELL);
        r.gives(2, "sellVotes", 0, REST, 0, 0, 1);
        r.keeps(1, "fewest", 0, 0, TO_SELL);

        for (int votes : new int[] {1, 7, 50, 51, 99, 100}) {
            r = sentence("14: FEWEST to SELL: as many VOTES as x has in f, " + votes);
            r.gives(30, "rule", DEEMED, 1);
            r.gives(1, "sellVotes", 0, REST, 0, 0, votes);
            r.keeps(votes, "fewest", 0, 0, TO_SELL);
        }

        r = sentence("14: FEWEST to SELL: one, where it is just more than HALF");
        r.gives(30, "rule", DEEMED, 99);
        r.gives(1, "sellVotes", 0, REST, 0, 0, 51);
        r.keeps(1, "fewest", 0, 0, TO_SELL);
        r.gives(2, "sellVotes", 0, REST, 0, 0, 1);
        r.keeps(2, "fewest", 0, 0, TO_SELL);

        r = sentence("14: FEWEST to SELL: till it is no more than another one's");
        r.gives(1, "sellVotes", 0, REST, 0, 0, 60);
        r.gives(2, "sellVotes", 0, REST, 1, 0, 29);
        r.keeps(31, "fewest", 0, 0, TO_SELL);
        r.gives(3, "sellVotes", 0, REST, 1, 0, 1);
        r.keeps(30, "fewest", 0, 0, TO_SELL);
        r.gives(4, "sellVotes", 0, REST, 1, 0, 10);
        r.keeps(20, "fewest", 0, 0, TO_SELL);

        r = sentence("14: FEWEST to SELL: NONE, f stays under its CONTROL by others' VOTES");
        r.gives(1, "sellVotes", 0, REST, 0, 0, 51);
        r.gives(2, "sellVotes", 0, REST, 4, 1, 30);
        r.keeps(NONE, "fewest", 0, 1, TO_SELL);
        r.gives(3, "sellVotes", 0, REST, 0, 1, 10);
        r.keeps(NONE, "fewest", 0, 1, TO_SELL);
        r.gives(4, "sellVotes", 0, 4, REST, 1, 1);
        r.keeps(10, "fewest", 0, 1, TO_SELL);
        r.keeps(0, "fewest", 4, 1, TO_SELL);

        r = sentence("14: FEWEST to SELL: f is x itself");
        r.gives(1, "sellVotes", 0, REST, 4, 1, 60);
        r.keeps(0, "fewest", 4, 0, TO_SELL);
        r.gives(2, "sellVotes", 0, REST, 5, 0, 60);
        r.keeps(NONE, "fewest", 4, 0, TO_SELL);

        r = sentence("14: FEWEST to SELL: at the end of the DAY that is looked at, whatever comes later");
        r.gives(1, "sellVotes", 0, REST, 0, 0, 60);
        r.gives(2, "sellVotes", 5, 0, 1, 0, 60);
        r.keeps(31, "fewest", 0, 0, TO_SELL);
        r.keeps(0, "fewest", 1, 0, TO_SELL);
        r.gives(0, "look", 5);
        r.keeps(0, "fewest", 0, 0, TO_SELL);
        r.keeps(31, "fewest", 1, 0, TO_SELL);
    }

    private void fewestToBuy() {
        Run r = sentence("14: FEWEST to BUY: 0, x CONTROLS f");
        r.gives(1, "sellVotes", 0, REST, 0, 0, 29);
        r.keeps(1, "fewest", 0, 0, TO_BUY);
        r.gives(2, "sellVotes", 0, REST, 0, 0, 1);
        r.keeps(0, "fewest", 0, 0, TO_BUY);

        int[][] want = {{50, 30, 30}, {50, 99, 51}, {99, 1, 1}, {1, 99, 2}, {98, 99, 99}, {99, 99, 99}};
        for (int[] row : want) {
            r = sentence("14: FEWEST to BUY: from nothing, HALF " + row[0] + ", DEEMED " + row[1]);
            r.gives(50, "rule", HALF, row[0]);
            r.gives(30, "rule", DEEMED, row[1]);
            r.keeps(row[2], "fewest", 0, 0, TO_BUY);
            r.keeps(row[2], "fewest", 8, 0, TO_BUY);
        }

        r = sentence("14: FEWEST to BUY: as many VOTES as the REST has in f");
        r.gives(50, "rule", HALF, 99);
        r.gives(30, "rule", DEEMED, 99);
        r.gives(1, "sellVotes", 0, REST, 1, 0, 1);
        r.keeps(99, "fewest", 0, 0, TO_BUY);
        r.gives(2, "sellVotes", 0, REST, 1, 0, 1);
        r.keeps(NONE, "fewest", 0, 0, TO_BUY);
        r = sentence("14: FEWEST to BUY: as many as the REST has, to pass another one");
        r.gives(1, "sellVotes", 0, REST, 1, 0, 49);
        r.keeps(50, "fewest", 0, 0, TO_BUY);
        r.gives(2, "sellVotes", 0, REST, 2, 0, 1);
        r.keeps(50, "fewest", 0, 0, TO_BUY);
        r.gives(3, "sellVotes", 0, REST, 2, 0, 1);
        r.keeps(NONE, "fewest", 0, 0, TO_BUY);

        r = sentence("14: FEWEST to BUY: the REST has none in f");
        r.gives(1, "sellVotes", 0, REST, 0, 0, 50);
        r.gives(2, "sellVotes", 0, REST, 1, 0, 50);
        r.keeps(NONE, "fewest", 0, 0, TO_BUY);
        r.keeps(NONE, "fewest", 2, 0, TO_BUY);
        r.gives(3, "sellVotes", 0, 1, 0, 0, 1);
        r.keeps(0, "fewest", 0, 0, TO_BUY);
        r.keeps(NONE, "fewest", 1, 0, TO_BUY);

        r = sentence("14: FEWEST to BUY: 0 alone, if f is x itself");
        r.gives(30, "rule", DEEMED, 1);
        for (int firm = 0; firm < 5; firm++) {
            r.keeps(NONE, "fewest", 4 + firm, firm, TO_BUY);
            r.keeps(1, "fewest", 4 + firm, (firm + 1) % 5, TO_BUY);
        }
        r.gives(1, "sellVotes", 0, REST, 4, 1, 1);
        r.keeps(NONE, "fewest", 4, 0, TO_BUY);
        r.gives(2, "sellVotes", 0, REST, 5, 0, 1);
        r.keeps(0, "fewest", 4, 0, TO_BUY);
        r.keeps(0, "fewest", 5, 1, TO_BUY);

        r = sentence("14: FEWEST to BUY: NONE, a VETO stands against it");
        r.gives(1, "veto", 0, 1, 0, 1);
        r.keeps(NONE, "fewest", 0, 0, TO_BUY);
        r.keeps(30, "fewest", 1, 0, TO_BUY);

        r = sentence("14: FEWEST to BUY: at the end of the DAY that is looked at, whatever comes later");
        r.gives(1, "sellVotes", 5, REST, 1, 0, 100);
        r.keeps(30, "fewest", 0, 0, TO_BUY);
        r.gives(0, "look", 5);
        r.keeps(NONE, "fewest", 0, 0, TO_BUY);
    }

    // ---- promise 15

    private void eventArguments() {
        Run r = sentence("15: OUTSIDE: what (0 to 3), before there is any EVENT");
        r.keepsBeyond(OUTSIDE, 0, 3, 1, "event", 0, 0);
        r = sentence("15: NONE: there is none such, before there is any");
        for (int what = 0; what < 4; what++) {
            r.keeps(NONE, "event", 0, what);
            r.keeps(NONE, "event", -1, what);
        }
        r = sentence("15: OUTSIDE: what (0 to 3)");
        r.gives(1, "sellVotes", 0, REST, 0, 0, 60);
        r.gives(2, "sellVotes", 1, 0, REST, 0, 60);
        r.keepsBeyond(OUTSIDE, 0, 3, 1, "event", 0, 0);
        r.keepsBeyond(OUTSIDE, 0, 3, 1, "event", 2, 0);
        r.keepsBeyond(OUTSIDE, 0, 3, 1, "event", -1, 0);
        r = sentence("15: NONE: there is none such (i below 0, too), of two");
        r.gives(1, "sellVotes", 0, REST, 0, 0, 60);
        r.gives(2, "sellVotes", 1, 0, REST, 0, 60);
        for (int what = 0; what < 4; what++) {
            r.keepsBeyond(NONE, 0, 1, 0, "event", 0, what);
        }
        r.gives(0, "event", 0, 0);
        r.gives(1, "event", 1, 0);
    }

    private static void givesEvents(Run r, int[]... events) {
        r.gives(events.length, "count", 7);
        for (int i = 0; i < events.length; i++) {
            for (int what = 0; what < 4; what++) {
                r.gives(events[i][what], "event", i, what);
            }
        }
        r.gives(NONE, "event", events.length, 0);
        r.gives(NONE, "event", -1, 0);
    }

    private void events() {
        Run r = sentence("Terms 2: EVENTS: before DAY 0 nobody CONTROLS anything");
        r.gives(1, "sellVotes", 0, REST, 0, 0, 60);
        givesEvents(r, new int[] {0, 0, 0, 1});

        r = sentence("Terms 2: EVENTS: on the last DAY");
        r.gives(1, "sellVotes", 999, REST, 8, 3, 60);
        givesEvents(r, new int[] {999, 8, 3, 1});
        r.gives(2, "sellVotes", 0, REST, 1, 3, 40);
        givesEvents(r, new int[] {0, 1, 3, 1}, new int[] {999, 1, 3, 0}, new int[] {999, 8, 3, 1});

        r = sentence("Terms 2: EVENTS: only the ends of the DAYS count");
        r.gives(1, "sellVotes", 7, REST, 0, 0, 60);
        r.gives(2, "sellVotes", 7, 0, REST, 0, 60);
        givesEvents(r);
        r.gives(3, "sellVotes", 8, REST, 0, 0, 60);
        r.gives(4, "veto", 9, 1, 0, 1);
        r.gives(5, "veto", 9, 1, 0, 0);
        givesEvents(r, new int[] {8, 0, 0, 1});
        r.gives(6, "sellVotes", 9, 0, REST, 0, 60);
        r.gives(7, "sellVotes", 10, REST, 0, 0, 60);
        givesEvents(r, new int[] {8, 0, 0, 1}, new int[] {9, 0, 0, 0}, new int[] {10, 0, 0, 1});

        r = sentence("Terms 2: EVENTS: of one DAY by rising x, of one x by rising f");
        r.gives(1, "sellVotes", 3, REST, 8, 0, 60);
        r.gives(2, "sellVotes", 3, REST, 0, 4, 60);
        r.gives(3, "sellVotes", 3, REST, 3, 1, 60);
        r.gives(4, "sellVotes", 2, REST, 0, 1, 30);
        givesEvents(r, new int[] {2, 0, 1, 1}, new int[] {3, 0, 0, 1}, new int[] {3, 0, 1, 0}, new int[] {3, 0, 4, 1},
            new int[] {3, 3, 1, 1}, new int[] {3, 8, 0, 1});

        r = sentence("Terms 2: EVENTS: of all DAYS, whichever is looked at");
        r.gives(1, "sellVotes", 0, REST, 0, 0, 60);
        r.gives(2, "sellVotes", 999, 0, REST, 0, 60);
        int before = 0;
        for (int day : new int[] {0, 1, 998, 999}) {
            r.gives(before, "look", day);
            givesEvents(r, new int[] {0, 0, 0, 1}, new int[] {999, 0, 0, 0});
            before = day;
        }
        r.gives(1, "cancel", 1);
        givesEvents(r, new int[] {0, 0, 0, 1});
        r.gives(0, "cancel", 0);
        givesEvents(r);
    }

    /** A ring of all FIRMS, each over the one before it, by so many VOTES each. */
    private static void ring(Run r, int votes) {
        for (int firm = 0; firm < 5; firm++) {
            r.gives(firm + 1, "sellVotes", 0, REST, 4 + (firm + 1) % 5, firm, votes);
        }
    }

    private static void givesEvent(Run r, int i, int... event) {
        for (int what = 0; what < 4; what++) {
            r.gives(event[what], "event", i, what);
        }
    }

    private void manyEvents() {
        Run r = sentence("15: the EVENTS of 40 DEALS: a RING of all, ended and begun 35 times");
        ring(r, 60);
        for (int day = 1; day <= 35; day++) {
            r.gives(5 + day, "veto", day, 3, 0, day % 2);
        }
        r.gives(550, "count", 7);
        givesEvent(r, 0, 0, 4, 0, 1);
        givesEvent(r, 24, 0, 8, 4, 1);
        givesEvent(r, 25, 1, 4, 0, 0);
        givesEvent(r, 26, 1, 5, 0, 0);
        givesEvent(r, 39, 1, 8, 4, 0);
        givesEvent(r, 40, 2, 4, 0, 1);
        givesEvent(r, 549, 35, 8, 4, 0);
        r.keeps(NONE, "event", 550, 0);
        r.keeps(NONE, "event", 550, 3);

        r = sentence("15: an EVENT on the first and on the last of 40 unlike DAYS");
        r.gives(1, "sellVotes", 960, REST, 0, 0, 60);
        for (int day = 961; day < 999; day++) {
            r.gives(day - 959, "veto", day, 1, 1, day % 2);
        }
        r.gives(40, "sellVotes", 999, 0, 8, 0, 60);
        givesEvents(r, new int[] {960, 0, 0, 1}, new int[] {999, 0, 0, 0}, new int[] {999, 8, 0, 1});
        r.gives(999, "when", 8, 0, 1);
        r.gives(960, "when", 0, 0, 1);

        r = sentence("15: the EVENTS of 40 DEALS: all nine over all five, ended and begun 31 times");
        r.gives(50, "rule", HALF, 1);
        ring(r, 2);
        for (int person = 0; person < 4; person++) {
            r.gives(6 + person, "sellVotes", 0, REST, person, 0, 2);
        }
        for (int day = 1; day <= 31; day++) {
            r.gives(9 + day, "veto", day, 4, 0, day % 2);
        }
        r.gives(45 + 31 * 34, "count", 7);
        for (int i = 0; i < 45; i++) {
            givesEvent(r, i, 0, i / 5, i % 5, 1);
        }
        givesEvent(r, 45, 1, 0, 0, 0);
        givesEvent(r, 44 + 31 * 34, 31, 8, 4, 0);
        r.gives(NONE, "event", 45 + 31 * 34, 0);
    }
}
