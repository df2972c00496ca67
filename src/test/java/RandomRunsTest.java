import java.util.Random;

/**
 * Long runs of calls, by fixed seeds, on the class and on ReferenceRegister at once: each answer of
 * the one must be the other's. All arguments are drawn beyond their edges now and then. An object is asked far more
 * here than the 512 calls that the document grants it: the class does not count them, and more is found so.
 */
public final class RandomRunsTest {
    private static final int RUNS = 300;
    private static final int CALLS = 512;
    private static final int[] FAR = {Integer.MIN_VALUE, -1000000007, -7, -6, -2, -1, 10, 11, 31, 32, 50,
        100, 101, 999, 1000, 1 << 20, 1 << 30, Integer.MAX_VALUE};

    private static final String[] CALL_NAMES = {"sellShares", "sellVotes", "veto", "cancel", "told", "look", "rule",
        "holds", "controls", "how", "above", "when", "fewest", "event", "stake", "nobody", "ranked", "owners",
        "circle", "image", "restore", "count"};

    private final Check check;
    private final Seen seen;
    private final Random random;
    private final ControlRegister real = new ControlRegister();
    private final ReferenceRegister model = new ReferenceRegister();
    private final int days;
    private final int step;
    private final int farOneIn;
    private final int dealShare;
    private final int kindBias;
    private final StringBuilder story = new StringBuilder();

    /** What the runs came by: a run that never meets a promise's harder cases proves little. */
    private static final class Seen {
        int full;
        int noWhileFull;
        int cancelRefused;
        int ringOfThree;
        int fiveRounds;
        int longChain;
        int deemedControl;
        int wideWitness;
        int soldSome;
        int boughtSome;
        int eventEnds;
        int locked;
        int partNobody;
        int deepStake;
        int rankThree;
        int bigCircle;
        int restored;

        void end(Check check) {
            int[] all = {full, noWhileFull, cancelRefused, ringOfThree, fiveRounds, longChain, deemedControl, wideWitness,
                soldSome, boughtSome, eventEnds, locked, partNobody, deepStake, rankThree, bigCircle, restored};
            for (int i = 0; i < all.length; i++) {
                check.isTrue("case " + i + " of Seen has been met", all[i] > 0);
            }
            System.out.println("met: " + java.util.Arrays.toString(all));
        }
    }

    private RandomRunsTest(Check check, Seen seen, long seed) {
        this.check = check;
        this.seen = seen;
        random = new Random(seed);
        int[] dayChoices = {1, 2, 4, 12, 40, 1000};
        days = dayChoices[random.nextInt(dayChoices.length)];
        step = days == 1000 ? 1 : 999 / days;
        farOneIn = random.nextBoolean() ? 40 : 400;
        dealShare = 20 + random.nextInt(50);
        kindBias = random.nextInt(3);
    }

    private boolean oneIn(int n) {
        return random.nextInt(n) == 0;
    }

    private int number(int below) {
        if (oneIn(farOneIn)) {
            return oneIn(3) ? random.nextInt() : FAR[random.nextInt(FAR.length)];
        }
        if (oneIn(farOneIn)) {
            return oneIn(2) ? -1 : below;
        }
        return random.nextInt(below);
    }

    private int day() {
        if (oneIn(farOneIn)) {
            return number(1000);
        }
        return random.nextInt(days) * step;
    }

    private int holder() {
        // The REST has the most to give at first, and the FIRMS make the chains.
        return oneIn(3) ? 9 : oneIn(2) ? 4 + random.nextInt(5) : number(10);
    }

    private int amount(int from, int firm, int what) {
        int held = real.holds(from, firm, what);
        switch (random.nextInt(6)) {
            case 0: return number(102);
            case 1: return held > 0 ? held : 1;
            case 2: return 51;
            case 3: return 100;
            case 4: return 1 + random.nextInt(3);
            default: return 20 + random.nextInt(25);
        }
    }

    private void due(String call, long got, long want) {
        story.append(call).append(" = ").append(got).append('\n');
        check.due(call, got, want);
        if (got != want && check.wrong() < 3) {
            System.out.println(story);
        }
    }

    private static String text(String name, int... a) {
        StringBuilder s = new StringBuilder(name).append('(');
        for (int i = 0; i < a.length; i++) {
            s.append(i == 0 ? "" : ", ").append(a[i]);
        }
        return s.append(')').toString();
    }

    private void sell(int kind) {
        int[] a = {day(), holder(), holder(), number(5), 0};
        a[4] = amount(a[1], a[3], kind);
        sell(kind, a);
    }

    private void sell(int kind, int... a) {
        int before = real.count(0);
        int got = kind == 0 ? real.sellShares(a[0], a[1], a[2], a[3], a[4]) : real.sellVotes(a[0], a[1], a[2], a[3], a[4]);
        int want = kind == 0 ? model.sellShares(a[0], a[1], a[2], a[3], a[4]) : model.sellVotes(a[0], a[1], a[2], a[3], a[4]);
        due(text(CALL_NAMES[kind], a), got, want);
        seen.full += got == ControlRegister.FULL ? 1 : 0;
        seen.noWhileFull += before == 40 && got == ControlRegister.NO ? 1 : 0;
    }

    private int[] someOrderOfFirms() {
        int[] order = {0, 1, 2, 3, 4};
        for (int i = 4; i > 0; i--) {
            int j = random.nextInt(i + 1);
            int kept = order[i];
            order[i] = order[j];
            order[j] = kept;
        }
        return order;
    }

    /** Each FIRM's VOTES go to FIRMS before it, and to a PERSON or a FIRM: long chains and wide witnesses. */
    private void chainOfVotes() {
        int[] order = someOrderOfFirms();
        int x = random.nextInt(9);
        for (int k = 0; k < 5; k++) {
            int parts = 1 + random.nextInt(3);
            for (int part = 0; part < parts; part++) {
                int from = k == 0 ? x : 4 + order[Math.max(0, k - 1 - part)];
                sell(1, day(), 9, from, order[k], oneIn(4) ? number(60) : 51 / parts + random.nextInt(6));
            }
            if (oneIn(3)) {
                sell(1, day(), 9, random.nextInt(9), order[k], 1 + random.nextInt(30));
            }
        }
    }

    /** Many FIRMS under x have small parts of the others: only several together make a FIRM fall. */
    private void wideWitnesses() {
        int[] order = someOrderOfFirms();
        int x = random.nextInt(4);
        int under = 2 + random.nextInt(3);
        int deemed = 40 + random.nextInt(30);
        due(text("rule", 1, deemed), real.rule(1, deemed), model.rule(1, deemed));
        for (int k = 0; k < under; k++) {
            sell(1, day(), 9, x, order[k], 51 + random.nextInt(5));
        }
        for (int k = under; k < 5; k++) {
            for (int part = 0; part < k; part++) {
                sell(1, day(), 9, 4 + order[part], order[k], 60 / k + random.nextInt(5));
            }
            sell(1, day(), 9, (x + 1) % 4, order[k], 15 + random.nextInt(20));
            if (oneIn(3)) {
                int[] a = {day(), 4 + order[random.nextInt(under)], order[k], 1};
                due(text("veto", a), real.veto(a[0], a[1], a[2], a[3]), model.veto(a[0], a[1], a[2], a[3]));
            }
        }
    }

    /** All SHARES of some FIRMS go to these FIRMS themselves, and parts of the others, too. */
    private void lockedShares() {
        int[] order = someOrderOfFirms();
        int size = 2 + random.nextInt(4);
        for (int k = 0; k < size; k++) {
            int part = random.nextInt(101);
            sell(0, day(), 9, 4 + order[(k + 1) % size], order[k], part);
            sell(0, day(), 9, 4 + order[(k + 2) % size], order[k], 100 - part);
        }
        for (int k = size; k < 5; k++) {
            sell(0, day(), 9, 4 + order[random.nextInt(5)], order[k], 1 + random.nextInt(60));
            sell(0, day(), 9, random.nextInt(4), order[k], 1 + random.nextInt(40));
        }
    }

    /** Every FIRM holds some of every other one: the greatest lower numbers. */
    private void webOfShares() {
        for (int firm = 0; firm < 5; firm++) {
            for (int holder = 4; holder < 9; holder++) {
                sell(0, day(), 9, holder, firm, 1 + random.nextInt(24));
            }
            sell(0, day(), 9, random.nextInt(4), firm, 1 + random.nextInt(5));
        }
    }

    private void begin() {
        switch (random.nextInt(7)) {
            case 0: chainOfVotes(); break;
            case 4: wideWitnesses(); break;
            case 1: lockedShares(); break;
            case 2: webOfShares(); break;
            case 3:
                chainOfVotes();
                lockedShares();
                break;
            default:
        }
        if (oneIn(2)) {
            int last = 999;
            due(text("look", last), real.look(last), model.look(last));
            askAll();
        }
    }

    private void deal() {
        int pick = random.nextInt(10);
        if (kindBias == 0 ? pick < 5 : kindBias == 1 ? pick < 1 : pick < 8) {
            sell(0);
        } else if (pick < 9 || oneIn(3)) {
            sell(1);
        } else {
            int[] a = {day(), number(9), number(5), number(2)};
            due(text("veto", a), real.veto(a[0], a[1], a[2], a[3]), model.veto(a[0], a[1], a[2], a[3]));
        }
    }

    private void change() {
        int a;
        int b;
        switch (random.nextInt(9)) {
            case 0: case 1: case 2:
                a = number(Math.max(1, real.count(0)));
                int got = real.cancel(a);
                seen.cancelRefused += got == ControlRegister.NO ? 1 : 0;
                due(text("cancel", a), got, model.cancel(a));
                break;
            case 3: case 4: case 5:
                a = day();
                due(text("look", a), real.look(a), model.look(a));
                break;
            case 6:
                a = number(3);
                b = oneIn(3) ? number(100) : 25 + random.nextInt(30);
                due(text("rule", a, b), real.rule(a, b), model.rule(a, b));
                break;
            case 7:
                a = number(2);
                due(text("image", a), real.image(a), model.image(a));
                break;
            default:
                a = number(2);
                // Seldom, or no run would ever fill its DEALS.
                if (oneIn(4)) {
                    int answer = real.restore(a);
                    seen.restored += answer == 1 ? 1 : 0;
                    due(text("restore", a), answer, model.restore(a));
                }
        }
    }

    private void ask() {
        int[] a = {number(10), number(5), number(5)};
        int pick = 7 + random.nextInt(13);
        int deal = number(Math.max(1, real.count(0)));
        switch (pick) {
            case 7: due(text("holds", a), real.holds(a[0], a[1], a[2]), model.holds(a[0], a[1], a[2])); break;
            case 8: due(text("controls", a[0]), real.controls(a[0]), model.controls(a[0])); break;
            case 9: due(text("how", a), real.how(a[0], a[1], a[2]), model.how(a[0], a[1], a[2])); break;
            case 10: due(text("above", a[1], a[2]), real.above(a[1], a[2]), model.above(a[1], a[2])); break;
            case 11: due(text("when", a), real.when(a[0], a[1], a[2]), model.when(a[0], a[1], a[2])); break;
            case 12: due(text("fewest", a), real.fewest(a[0], a[1], a[2]), model.fewest(a[0], a[1], a[2])); break;
            case 13:
                int i = number(Math.max(1, real.count(7)));
                due(text("event", i, a[2]), real.event(i, a[2]), model.event(i, a[2]));
                break;
            case 14: due(text("stake", a), real.stake(a[0], a[1], a[2]), model.stake(a[0], a[1], a[2])); break;
            case 15: due(text("nobody", a[1], a[2]), real.nobody(a[1], a[2]), model.nobody(a[1], a[2])); break;
            case 16: due(text("ranked", a[1], a[2]), real.ranked(a[1], a[2]), model.ranked(a[1], a[2])); break;
            case 17: due(text("owners", a[1]), real.owners(a[1]), model.owners(a[1])); break;
            case 18: due(text("circle", a[1]), real.circle(a[1]), model.circle(a[1])); break;
            default:
                int what = oneIn(2) ? number(10) : number(50);
                due(text("count", what), real.count(what), model.count(what));
                int part = number(8);
                due(text("told", deal, part), real.told(deal, part), model.told(deal, part));
        }
    }

    private void askAll() {
        for (int what = 0; what < 50; what++) {
            due(text("count", what), real.count(what), model.count(what));
        }
        for (int i = 0; i < real.count(0); i++) {
            for (int what = 0; what < 8; what++) {
                due(text("told", i, what), real.told(i, what), model.told(i, what));
            }
        }
        for (int firm = 0; firm < 5; firm++) {
            askAllOfFirm(firm);
            for (int holder = 0; holder < 10; holder++) {
                askAllOfPair(holder, firm);
            }
        }
        for (int i = 0; i <= Math.min(30, real.count(7)); i++) {
            for (int what = 0; what < 4; what++) {
                due(text("event", i, what), real.event(i, what), model.event(i, what));
            }
            seen.eventEnds += real.event(i, 3) == 0 ? 1 : 0;
        }
        seen.fiveRounds += real.count(6) == 5 ? 1 : 0;
        seen.locked += Integer.bitCount(real.count(8)) > 2 ? 1 : 0;
    }

    private void askAllOfFirm(int firm) {
        for (int what = 0; what < 4; what++) {
            due(text("above", firm, what), real.above(firm, what), model.above(firm, what));
        }
        for (int what = 0; what < 2; what++) {
            due(text("nobody", firm, what), real.nobody(firm, what), model.nobody(firm, what));
        }
        for (int i = -1; i < 5; i++) {
            due(text("ranked", firm, i), real.ranked(firm, i), model.ranked(firm, i));
        }
        due(text("owners", firm), real.owners(firm), model.owners(firm));
        due(text("circle", firm), real.circle(firm), model.circle(firm));
        seen.ringOfThree += real.above(firm, 3) == 1 && Integer.bitCount(real.controls(firm + 4)) > 2 ? 1 : 0;
        seen.partNobody += real.nobody(firm, 0) > 1 ? 1 : 0;
        seen.rankThree += real.ranked(firm, 3) >= 0 ? 1 : 0;
        seen.bigCircle += Integer.bitCount(real.circle(firm)) > 3 ? 1 : 0;
    }

    private void askAllOfPair(int x, int firm) {
        for (int what = 0; what < 5; what++) {
            due(text("holds", x, firm, what), real.holds(x, firm, what), model.holds(x, firm, what));
            due(text("how", x, firm, what), real.how(x, firm, what), model.how(x, firm, what));
        }
        for (int what = 0; what < 2; what++) {
            due(text("stake", x, firm, what), real.stake(x, firm, what), model.stake(x, firm, what));
            due(text("when", x, firm, what), real.when(x, firm, what), model.when(x, firm, what));
            due(text("fewest", x, firm, what), real.fewest(x, firm, what), model.fewest(x, firm, what));
        }
        due(text("controls", x), real.controls(x), model.controls(x));
        seen.longChain += real.how(x, firm, 4) > 0 && Integer.bitCount(real.how(x, firm, 4)) > 3 ? 1 : 0;
        seen.deemedControl += real.how(x, firm, 0) == 2 ? 1 : 0;
        seen.wideWitness += real.how(x, firm, 3) > 0 && Integer.bitCount(real.how(x, firm, 3)) > 2 ? 1 : 0;
        seen.soldSome += real.fewest(x, firm, 0) > 0 ? 1 : 0;
        seen.boughtSome += real.fewest(x, firm, 1) > 0 ? 1 : 0;
        seen.deepStake += real.stake(x, firm, 1) > 1000000L ? 1 : 0;
    }

    private void run() {
        begin();
        for (int call = 0; call < CALLS; call++) {
            int pick = random.nextInt(100);
            if (pick < dealShare) {
                deal();
            } else if (pick < dealShare + 12) {
                change();
            } else {
                ask();
            }
            if (call % 128 == 127) {
                askAll();
            }
        }
    }

    public static void main(String[] args) {
        Check check = new Check();
        Seen seen = new Seen();
        int runs = args.length > 0 ? Integer.parseInt(args[0]) : RUNS;
        long first = args.length > 1 ? Long.parseLong(args[1]) : 1;
        for (long seed = first; seed < first + runs && check.wrong() == 0; seed++) {
            new RandomRunsTest(check, seen, seed).run();
        }
        seen.end(check);
        check.end();
    }
}
