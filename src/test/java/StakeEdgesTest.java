/** Promises 16 to 20 and the document's section 3 at their edges: a method for each sentence that names one. */
public final class StakeEdgesTest {
    private static final int UNKNOWN = Run.UNKNOWN, OUTSIDE = Run.OUTSIDE, NONE = Run.NONE, REST = Run.REST;
    private static final int OWNING = 2;
    private static final int LOCKED = 8;

    private final Check check = new Check();

    private Run sentence(String words) {
        return new Run(check, words);
    }

    public static void main(String[] args) {
        StakeEdgesTest t = new StakeEdgesTest();
        t.stakeArguments();
        t.stakeOfShares();
        t.stakeThroughFirms();
        t.stakeOfTheDay();
        t.lockedFirms();
        t.stakeInLockedFirms();
        t.nobodyArguments();
        t.nobody();
        t.rankedArguments();
        t.ranked();
        t.ownersArguments();
        t.ownersByStake();
        t.ownersByControl();
        t.circleArguments();
        t.circle();
        t.check.end();
    }

    private static void givesStake(Run r, int holder, int firm, long upper, long lower) {
        r.gives(upper, "stake", holder, firm, 0);
        r.gives(lower, "stake", holder, firm, 1);
    }

    private static void givesNobody(Run r, int firm, long upper, long lower) {
        r.gives(upper, "nobody", firm, 0);
        r.gives(lower, "nobody", firm, 1);
    }

    // ---- promise 16

    private void stakeArguments() {
        Run r = sentence("16: UNKNOWN: the HOLDER (0 to 3 and the REST)");
        r.gives(1, "sellShares", 0, REST, 4, 1, 60);
        r.keepsBeyond(UNKNOWN, 0, 9, 0, "stake", 0, 1, 0);
        r.keepsBeyond(UNKNOWN, 0, 9, 0, "stake", 0, 1, 2);
        givesStake(r, 0, 1, 0, 1);
        givesStake(r, 3, 1, 0, 1);
        givesStake(r, REST, 1, 1, 1);
        r = sentence("16: UNKNOWN: a FIRM as the one that has it, too");
        r.gives(1, "sellShares", 0, REST, 4, 1, 60);
        for (int holder = 4; holder < 9; holder++) {
            r.keeps(UNKNOWN, "stake", holder, 1, 0);
            r.keeps(UNKNOWN, "stake", holder, 1, 1);
            r.keeps(UNKNOWN, "stake", holder, 1, 2);
        }
        r = sentence("16: UNKNOWN: the FIRM (0 to 4)");
        r.gives(1, "sellShares", 0, REST, 0, 4, 1);
        r.keepsBeyond(UNKNOWN, 0, 4, 1, "stake", 0, 0, 0);
        r.keepsBeyond(UNKNOWN, 0, 4, 1, "stake", REST, 0, -1);
        givesStake(r, 0, 4, 1, 100);
        givesStake(r, 0, 0, 0, 1);
        r = sentence("16: OUTSIDE: what (0, 1)");
        r.gives(1, "sellShares", 0, REST, 0, 4, 1);
        r.keepsBeyond(OUTSIDE, 0, 1, 2, "stake", 0, 4, 0);
        r.keepsBeyond(OUTSIDE, 0, 1, 2, "stake", REST, 0, 0);
    }

    private void stakeOfShares() {
        Run r = sentence("16: 0 is 0 by 1, and all is 1 by 1");
        for (int firm = 0; firm < 5; firm++) {
            for (int person = 0; person < 4; person++) {
                givesStake(r, person, firm, 0, 1);
            }
            givesStake(r, REST, firm, 1, 1);
        }
        int[][] want = {{1, 1, 100}, {2, 1, 50}, {25, 1, 4}, {30, 3, 10}, {50, 1, 2}, {98, 49, 50},
            {99, 99, 100}, {100, 1, 1}};
        for (int[] row : want) {
            r = sentence("16: " + row[0] + " SHARES, by 100, in lowest terms");
            r.gives(1, "sellShares", 0, REST, 3, 4, row[0]);
            givesStake(r, 3, 4, row[1], row[2]);
            givesStake(r, REST, 4, row[2] - row[1], row[0] == 100 ? 1 : row[2]);
            givesStake(r, 2, 4, 0, 1);
            givesStake(r, 3, 3, 0, 1);
        }
    }

    private void stakeThroughFirms() {
        Run r = sentence("16: the greatest lower number: a hundredth of a hundredth, five times");
        r.gives(1, "sellShares", 0, REST, 0, 0, 1);
        for (int firm = 1; firm < 5; firm++) {
            r.gives(firm + 1, "sellShares", 0, REST, 3 + firm, firm, 1);
        }
        long lower = 1;
        for (int firm = 0; firm < 5; firm++) {
            lower *= 100;
            givesStake(r, 0, firm, 1, lower);
            givesStake(r, REST, firm, lower - 1, lower);
            givesNobody(r, firm, 0, 1);
        }
        r = sentence("16: the same from the last FIRM to the first");
        r.gives(1, "sellShares", 0, REST, 3, 4, 1);
        for (int firm = 0; firm < 4; firm++) {
            r.gives(firm + 2, "sellShares", 0, REST, 5 + firm, firm, 1);
        }
        givesStake(r, 3, 0, 1, 10000000000L);
        givesStake(r, REST, 0, 9999999999L, 10000000000L);

        r = sentence("16: all SHARES of a FIRM are another one's, through all FIRMS");
        r.gives(1, "sellShares", 0, REST, 3, 4, 100);
        for (int firm = 0; firm < 4; firm++) {
            r.gives(firm + 2, "sellShares", 0, REST, 5 + firm, firm, 100);
        }
        for (int firm = 0; firm < 5; firm++) {
            givesStake(r, 3, firm, 1, 1);
            givesStake(r, REST, firm, 0, 1);
        }

        // s0 = 1/100 + 99/100 s1 and so on round: s0 (10^10 - 99^5) = 10^8.
        r = sentence("16: through a ring of all FIRMS that hold all but one SHARE");
        for (int firm = 0; firm < 5; firm++) {
            r.gives(firm + 1, "sellShares", 0, REST, 4 + (firm + 1) % 5, firm, 99);
        }
        r.gives(6, "sellShares", 0, REST, 0, 0, 1);
        long all = 10000000000L - 9509900499L;
        givesStake(r, 0, 0, 100000000L, all);
        givesStake(r, 0, 4, 99000000L, all);
        givesStake(r, REST, 0, all - 100000000L, all);
        r.gives(0, "count", LOCKED);
    }

    private void stakeOfTheDay() {
        Run r = sentence("16: at the end of the DAY that is looked at");
        r.gives(1, "sellShares", 999, REST, 0, 0, 50);
        r.gives(0, "look", 998);
        givesStake(r, 0, 0, 0, 1);
        r.gives(998, "look", 999);
        givesStake(r, 0, 0, 1, 2);
    }

    private void lockedFirms() {
        Run r = sentence("Terms 3: LOCKED: none at first");
        r.gives(0, "count", LOCKED);

        r = sentence("Terms 3: LOCKED: all 100 SHARES, 99 are not enough");
        r.gives(1, "sellShares", 0, REST, 4, 1, 100);
        r.gives(0, "count", LOCKED);
        r.gives(2, "sellShares", 0, REST, 5, 0, 99);
        r.gives(0, "count", LOCKED);
        r.gives(3, "sellShares", 0, REST, 6, 0, 1);
        r.gives(0, "count", LOCKED);
        r.gives(4, "sellShares", 0, 6, 5, 0, 1);
        r.gives(3, "count", LOCKED);

        r = sentence("Terms 3: LOCKED: by FIRMS of that set: a line that ends at a PERSON is none");
        for (int firm = 0; firm < 4; firm++) {
            r.gives(firm + 1, "sellShares", 0, REST, 5 + firm, firm, 100);
        }
        r.gives(5, "sellShares", 0, REST, 0, 4, 100);
        r.gives(0, "count", LOCKED);
        r.gives(6, "sellShares", 0, 0, 4, 4, 99);
        r.gives(0, "count", LOCKED);
        r.gives(7, "sellShares", 0, 0, 7, 4, 1);
        r.gives(31, "count", LOCKED);

        r = sentence("Terms 3: LOCKED: the greatest set, of two apart, and of one that these hold");
        r.gives(1, "sellShares", 0, REST, 5, 0, 100);
        r.gives(2, "sellShares", 0, REST, 4, 1, 100);
        r.gives(3, "sellShares", 0, REST, 7, 2, 100);
        r.gives(4, "sellShares", 0, REST, 6, 3, 100);
        r.gives(15, "count", LOCKED);
        r.gives(5, "sellShares", 0, REST, 4, 4, 50);
        r.gives(6, "sellShares", 0, REST, 7, 4, 49);
        r.gives(15, "count", LOCKED);
        r.gives(7, "sellShares", 0, REST, 6, 4, 1);
        r.gives(31, "count", LOCKED);

        r = sentence("Terms 3: LOCKED: the first and the last FIRM");
        r.gives(1, "sellShares", 0, REST, 8, 0, 100);
        r.gives(2, "sellShares", 1, REST, 4, 4, 100);
        r.gives(0, "count", LOCKED);
        r.gives(0, "look", 1);
        r.gives(17, "count", LOCKED);
    }

    private void stakeInLockedFirms() {
        Run r = sentence("Terms 3: the STAKE is 0 if the FIRM is LOCKED, and NOBODY has all");
        r.gives(1, "sellShares", 0, REST, 5, 0, 100);
        r.gives(2, "sellShares", 0, REST, 4, 1, 99);
        givesStake(r, REST, 0, 1, 1);
        givesStake(r, REST, 1, 1, 1);
        givesNobody(r, 0, 0, 1);
        r.gives(3, "sellShares", 0, REST, 2, 1, 1);
        givesStake(r, 2, 0, 1, 1);
        givesStake(r, 2, 1, 1, 1);
        givesStake(r, REST, 0, 0, 1);
        r.gives(4, "sellShares", 0, 2, 4, 1, 1);
        for (int firm = 0; firm < 2; firm++) {
            for (int person = 0; person < 4; person++) {
                givesStake(r, person, firm, 0, 1);
            }
            givesStake(r, REST, firm, 0, 1);
            givesNobody(r, firm, 1, 1);
        }
        givesStake(r, REST, 2, 1, 1);

        r = sentence("Terms 3: what a LOCKED FIRM holds of another one is nobody's");
        r.gives(1, "sellShares", 0, REST, 5, 0, 100);
        r.gives(2, "sellShares", 0, REST, 4, 1, 100);
        r.gives(3, "sellShares", 0, REST, 4, 2, 99);
        givesStake(r, REST, 2, 1, 100);
        givesNobody(r, 2, 99, 100);
        r.gives(4, "sellShares", 0, REST, 0, 2, 1);
        givesStake(r, 0, 2, 1, 100);
        givesStake(r, REST, 2, 0, 1);
        r.gives(3, "count", LOCKED);

        r = sentence("Terms 3: all FIRMS are LOCKED");
        for (int firm = 0; firm < 5; firm++) {
            r.gives(firm + 1, "sellShares", 0, REST, 4 + (firm + 1) % 5, firm, 100);
        }
        for (int firm = 0; firm < 5; firm++) {
            givesStake(r, REST, firm, 0, 1);
            givesStake(r, 0, firm, 0, 1);
            givesNobody(r, firm, 1, 1);
            r.gives(NONE, "ranked", firm, 0);
            r.gives(0, "owners", firm);
            r.gives(31, "circle", firm);
        }
    }

    // ---- promise 17

    private void nobodyArguments() {
        Run r = sentence("17: UNKNOWN: the FIRM (0 to 4)");
        r.keepsBeyond(UNKNOWN, 0, 4, 0, "nobody", 0, 0);
        r.keepsBeyond(UNKNOWN, 0, 4, 0, "nobody", 0, 2);
        r = sentence("17: OUTSIDE: what (0, 1)");
        r.keepsBeyond(OUTSIDE, 0, 1, 1, "nobody", 0, 0);
        r.keepsBeyond(OUTSIDE, 0, 1, 1, "nobody", 4, 0);
    }

    private void nobody() {
        Run r = sentence("17: NOBODY's part: 0 is 0 by 1");
        for (int firm = 0; firm < 5; firm++) {
            givesNobody(r, firm, 0, 1);
        }
        r.gives(1, "sellShares", 0, REST, 0, 0, 100);
        givesNobody(r, 0, 0, 1);

        r = sentence("17: NOBODY's part: a hundredth of a hundredth, three times");
        r.gives(1, "sellShares", 0, REST, 5, 0, 100);
        r.gives(2, "sellShares", 0, REST, 4, 1, 100);
        r.gives(3, "sellShares", 0, REST, 4, 2, 1);
        r.gives(4, "sellShares", 0, REST, 6, 3, 1);
        r.gives(5, "sellShares", 0, REST, 7, 4, 1);
        givesNobody(r, 2, 1, 100);
        givesNobody(r, 3, 1, 10000);
        givesNobody(r, 4, 1, 1000000);
        givesStake(r, REST, 4, 999999, 1000000);

        r = sentence("17: 1 less the STAKES of all PERSONS and of the REST");
        r.gives(1, "sellShares", 0, REST, 5, 0, 100);
        r.gives(2, "sellShares", 0, REST, 4, 1, 100);
        r.gives(3, "sellShares", 0, REST, 4, 2, 50);
        for (int person = 0; person < 4; person++) {
            r.gives(4 + person, "sellShares", 0, REST, person, 2, 10);
            givesNobody(r, 2, 1, 2);
        }
        r.gives(8, "sellShares", 0, REST, 5, 2, 10);
        givesNobody(r, 2, 3, 5);
    }

    // ---- promise 18

    private void rankedArguments() {
        Run r = sentence("18: UNKNOWN: the FIRM (0 to 4)");
        r.gives(1, "sellShares", 0, REST, 0, 0, 10);
        r.keepsBeyond(UNKNOWN, 0, 4, 0, "ranked", 0, 0);
        r.keepsBeyond(UNKNOWN, 0, 4, 0, "ranked", 0, -1);
        r = sentence("18: NONE: there is none such (i below 0, too), of none");
        r.keeps(NONE, "ranked", 0, 0);
        r.keeps(NONE, "ranked", 0, -1);
        r.keepsBeyond(NONE, 0, 3, 1, "ranked", 4, 0);
        r = sentence("18: NONE: there is none such (i below 0, too), of two");
        r.gives(1, "sellShares", 0, REST, 3, 0, 10);
        r.gives(2, "sellShares", 0, REST, 1, 0, 10);
        r.keepsBeyond(NONE, 0, 1, 1, "ranked", 0, 0);
        r.gives(1, "ranked", 0, 0);
        r.gives(3, "ranked", 0, 1);
        r = sentence("18: NONE: there is none such (i below 0, too), of all four");
        for (int person = 0; person < 4; person++) {
            r.gives(person + 1, "sellShares", 0, REST, person, 0, 10 + person);
        }
        r.keepsBeyond(NONE, 0, 3, 1, "ranked", 0, 0);
        r.gives(3, "ranked", 0, 0);
        r.gives(0, "ranked", 0, 3);
    }

    private void ranked() {
        Run r = sentence("18: of like ones by rising numbers");
        for (int person = 3; person >= 0; person--) {
            r.gives(4 - person, "sellShares", 0, REST, person, 2, 25);
        }
        for (int i = 0; i < 4; i++) {
            r.gives(i, "ranked", 2, i);
        }
        r.gives(5, "sellShares", 0, 0, 3, 2, 1);
        int[] want = {3, 1, 2, 0};
        for (int i = 0; i < 4; i++) {
            r.gives(want[i], "ranked", 2, i);
        }

        r = sentence("18: the PERSONS whose STAKE is above 0, however little");
        r.gives(1, "sellShares", 0, REST, 2, 0, 1);
        for (int firm = 1; firm < 5; firm++) {
            r.gives(firm + 1, "sellShares", 0, REST, 3 + firm, firm, 1);
        }
        r.gives(2, "ranked", 4, 0);
        r.gives(NONE, "ranked", 4, 1);
        r.gives(6, "sellShares", 0, REST, 3, 4, 1);
        r.gives(3, "ranked", 4, 0);
        r.gives(2, "ranked", 4, 1);
        r.gives(NONE, "ranked", 4, 2);

        r = sentence("18: like STAKES by unlike ways");
        r.gives(1, "sellShares", 0, REST, 1, 0, 10);
        r.gives(2, "sellShares", 0, REST, 5, 0, 20);
        r.gives(3, "sellShares", 0, REST, 0, 1, 50);
        r.gives(0, "ranked", 0, 0);
        r.gives(1, "ranked", 0, 1);
        r.gives(4, "sellShares", 0, 0, REST, 1, 1);
        r.gives(1, "ranked", 0, 0);
        r.gives(0, "ranked", 0, 1);
        r.gives(NONE, "ranked", 0, 2);
    }

    // ---- promise 19

    private void ownersArguments() {
        Run r = sentence("19: UNKNOWN: the FIRM (0 to 4)");
        r.gives(1, "sellShares", 0, REST, 0, 4, 60);
        r.keepsBeyond(UNKNOWN, 0, 4, 0, "owners", 0);
        r.gives(1, "owners", 4);
        r.gives(0, "owners", 0);
    }

    private void ownersByStake() {
        for (int owning : new int[] {1, 2, 25, 98, 99}) {
            Run r = sentence("Terms 3: OWNERS: more than OWNING by 100 (1 to 99), OWNING is " + owning);
            r.gives(25, "rule", OWNING, owning);
            r.gives(1, "sellShares", 0, REST, 2, 3, owning);
            r.gives(0, "owners", 3);
            r.gives(2, "sellShares", 0, REST, 2, 3, 1);
            r.gives(4, "owners", 3);
        }
        Run r = sentence("Terms 3: OWNERS: just OWNING by 100, a little more and a little less, through a FIRM");
        r.gives(1, "sellShares", 0, REST, 0, 0, 24);
        r.gives(2, "sellShares", 0, REST, 5, 0, 1);
        r.gives(3, "sellShares", 0, REST, 0, 1, 99);
        r.gives(0, "owners", 0);
        r.gives(4, "sellShares", 0, REST, 0, 1, 1);
        r.gives(0, "owners", 0);
        givesStake(r, 0, 0, 1, 4);
        r.gives(5, "sellShares", 0, 0, REST, 1, 99);
        r.gives(6, "sellShares", 0, REST, 0, 0, 1);
        givesStake(r, 0, 0, 2501, 10000);
        r.gives(1, "owners", 0);
        r.gives(25, "rule", OWNING, 26);
        r.gives(0, "owners", 0);

        r = sentence("19: none of them, and all PERSONS; the REST and FIRMS are none");
        for (int firm = 0; firm < 5; firm++) {
            r.gives(0, "owners", firm);
        }
        r.gives(25, "rule", OWNING, 24);
        r.gives(1, "sellShares", 0, REST, 4, 1, 60);
        r.gives(0, "owners", 1);
        for (int person = 0; person < 4; person++) {
            r.gives(person + 2, "sellShares", 0, REST, person, 0, 25);
            r.gives((2 << person) - 1, "owners", 0);
        }
        r.gives(24, "rule", OWNING, 25);
        r.gives(0, "owners", 0);
    }

    private void ownersByControl() {
        Run r = sentence("Terms 3: OWNERS: the PERSONS that CONTROL it, without any SHARE");
        r.gives(1, "sellVotes", 0, REST, 3, 4, 29);
        r.gives(0, "owners", 4);
        r.gives(2, "sellVotes", 0, REST, 3, 4, 1);
        r.gives(8, "owners", 4);
        r.gives(3, "sellShares", 0, REST, 0, 4, 26);
        r.gives(9, "owners", 4);
        r.gives(4, "sellVotes", 0, REST, 5, 4, 70);
        r.gives(1, "owners", 4);
        r = sentence("Terms 3: OWNERS: a FIRM that CONTROLS it is none");
        for (int firm = 0; firm < 4; firm++) {
            r.gives(firm + 1, "sellVotes", 0, REST, 4 + firm, 4, 20 + firm);
        }
        r.gives(50, "rule", 0, 19);
        r.gives(15, "above", 4, 1);
        r.gives(0, "owners", 4);
        r.gives(5, "sellVotes", 0, REST, 8, 0, 60);
        r.gives(0, "owners", 0);
        r = sentence("Terms 3: OWNERS: a LOCKED FIRM may have one that CONTROLS it");
        r.gives(1, "sellShares", 0, REST, 5, 0, 100);
        r.gives(2, "sellShares", 0, REST, 4, 1, 100);
        r.gives(0, "owners", 0);
        r.gives(3, "sellVotes", 0, REST, 2, 0, 51);
        r.gives(4, "owners", 0);
        r.gives(0, "owners", 1);
    }

    // ---- promise 20

    private void circleArguments() {
        Run r = sentence("20: UNKNOWN: the FIRM (0 to 4)");
        r.gives(1, "sellShares", 0, REST, 4, 4, 1);
        r.gives(2, "sellShares", 0, REST, 8, 0, 1);
        r.keepsBeyond(UNKNOWN, 0, 4, 0, "circle", 0);
        r.gives(17, "circle", 4);
        r.gives(17, "circle", 0);
    }

    private void circle() {
        Run r = sentence("20: 0, if it does not REACH itself");
        for (int firm = 0; firm < 5; firm++) {
            r.gives(0, "circle", firm);
        }
        for (int firm = 0; firm < 4; firm++) {
            r.gives(firm + 1, "sellShares", 0, REST, 4 + firm, firm + 1, 100);
        }
        for (int firm = 0; firm < 5; firm++) {
            r.gives(0, "circle", firm);
        }
        r = sentence("Terms 3: a FIRM REACHES another one if it holds a SHARE of it: one is enough, none is not");
        r.gives(1, "sellShares", 0, REST, 4, 1, 1);
        r.gives(2, "sellShares", 0, REST, 5, 0, 1);
        r.gives(3, "circle", 0);
        r.gives(3, "circle", 1);
        r.gives(3, "sellShares", 1, 5, REST, 0, 1);
        r.gives(3, "circle", 0);
        r.gives(0, "look", 1);
        r.gives(0, "circle", 0);
        r.gives(0, "circle", 1);
        r = sentence("Terms 3: the CIRCLE: those it REACHES and that REACH it, both; of all FIRMS");
        for (int firm = 0; firm < 5; firm++) {
            r.gives(firm + 1, "sellShares", firm, REST, 4 + firm, (firm + 1) % 5, 1);
        }
        r.gives(0, "look", 3);
        for (int firm = 0; firm < 5; firm++) {
            r.gives(0, "circle", firm);
        }
        r.gives(3, "look", 4);
        for (int firm = 0; firm < 5; firm++) {
            r.gives(31, "circle", firm);
        }
        r = sentence("Terms 3: the CIRCLE: one that is only reached, and one that only reaches, are not of it");
        r.gives(1, "sellShares", 0, REST, 5, 2, 1);
        r.gives(2, "sellShares", 0, REST, 6, 1, 1);
        r.gives(3, "sellShares", 0, REST, 4, 1, 1);
        r.gives(4, "sellShares", 0, REST, 6, 3, 1);
        r.gives(6, "circle", 1);
        r.gives(6, "circle", 2);
        r.gives(0, "circle", 0);
        r.gives(0, "circle", 3);
        r = sentence("Terms 3: VOTES REACH nothing");
        r.gives(1, "sellVotes", 0, REST, 4, 1, 100);
        r.gives(2, "sellVotes", 0, REST, 5, 0, 100);
        r.gives(0, "circle", 0);
    }
}
