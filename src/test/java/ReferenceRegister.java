import java.math.BigInteger;
import java.util.ArrayList;
import java.util.Comparator;
import java.util.List;
import java.util.Set;
import java.util.TreeSet;

/**
 * The document once more, word by word and without any thought of speed: what the random runs
 * compare the class with. It shares no code and, where there is a choice, no method with the class.
 */
final class ReferenceRegister {
    static final int UNKNOWN = -1, OUTSIDE = -2, STATE = -3, FULL = -4, NO = -5, NONE = -6;

    record Deal(int day, int kind, int firm, int from, int to, int n) {
    }

    record Image(List<Deal> deals, int looked, int half, int deemed, int owning) {
    }

    record Event(int day, int holder, int firm, int begins) {
    }

    /** upper / lower, always in lowest terms. */
    record Fraction(BigInteger upper, BigInteger lower) {
        static Fraction of(BigInteger upper, BigInteger lower) {
            BigInteger common = upper.gcd(lower);
            if (lower.signum() < 0) {
                common = common.negate();
            }
            return new Fraction(upper.divide(common), lower.divide(common));
        }

        static Fraction of(long upper, long lower) {
            return of(BigInteger.valueOf(upper), BigInteger.valueOf(lower));
        }

        Fraction plus(Fraction o) {
            return of(upper.multiply(o.lower).add(o.upper.multiply(lower)), lower.multiply(o.lower));
        }

        Fraction minus(Fraction o) {
            return plus(new Fraction(o.upper.negate(), o.lower));
        }

        Fraction times(Fraction o) {
            return of(upper.multiply(o.upper), lower.multiply(o.lower));
        }

        Fraction by(Fraction o) {
            return of(upper.multiply(o.lower), lower.multiply(o.upper));
        }

        boolean isZero() {
            return upper.signum() == 0;
        }

        int compare(Fraction o) {
            return minus(o).upper.signum();
        }
    }

    static final class Standing {
        final int[][] shares = new int[10][5];
        final int[][] votes = new int[10][5];
        final boolean[][] veto = new boolean[10][5];
        boolean sound = true;

        Standing(List<Deal> done) {
            for (int f = 0; f < 5; f++) {
                shares[9][f] = 100;
                votes[9][f] = 100;
            }
            for (Deal d : done) {
                if (d.kind == 0 || d.kind == 1) {
                    int[][] what = d.kind == 0 ? shares : votes;
                    what[d.from][d.firm] -= d.n;
                    what[d.to][d.firm] += d.n;
                    sound &= what[d.from][d.firm] >= 0;
                } else {
                    veto[d.to][d.firm] = d.kind == 2;
                }
            }
        }
    }

    private List<Deal> deals = new ArrayList<>();
    private int looked = 0, half = 50, deemed = 30, owning = 25;
    private final Image[] images = new Image[2];

    // ---- deals

    private static List<Deal> inOrder(List<Deal> some, int lastDay) {
        List<Deal> all = new ArrayList<>(some);
        all.removeIf(d -> d.day > lastDay);
        all.sort(Comparator.comparingInt(Deal::day)); // stable: by number within a day
        return all;
    }

    private Standing at(int day) {
        return new Standing(inOrder(deals, day));
    }

    private int add(Deal d) {
        List<Deal> more = new ArrayList<>(deals);
        more.add(d);
        if (!new Standing(inOrder(more, 999)).sound) {
            return NO;
        }
        if (deals.size() == 40) {
            return FULL;
        }
        deals = more;
        return deals.size();
    }

    private int sell(int kind, int day, int from, int to, int firm, int n) {
        if (from < 0 || from > 9 || to < 0 || to > 9 || firm < 0 || firm > 4) {
            return UNKNOWN;
        }
        if (day < 0 || day > 999 || n < 1 || n > 100 || from == to || from - 4 == firm || to - 4 == firm) {
            return OUTSIDE;
        }
        return add(new Deal(day, kind, firm, from, to, n));
    }

    int sellShares(int day, int from, int to, int firm, int n) {
        return sell(0, day, from, to, firm, n);
    }

    int sellVotes(int day, int from, int to, int firm, int n) {
        return sell(1, day, from, to, firm, n);
    }

    int veto(int day, int holder, int firm, int on) {
        if (holder < 0 || holder > 8 || firm < 0 || firm > 4) {
            return UNKNOWN;
        }
        if (day < 0 || day > 999 || on < 0 || on > 1) {
            return OUTSIDE;
        }
        return add(new Deal(day, on == 1 ? 2 : 3, firm, NONE, holder, 0));
    }

    int cancel(int deal) {
        if (deal < 0 || deal >= deals.size()) {
            return UNKNOWN;
        }
        List<Deal> fewer = new ArrayList<>(deals);
        fewer.remove(deal);
        if (!new Standing(inOrder(fewer, 999)).sound) {
            return NO;
        }
        deals = fewer;
        return deals.size();
    }

    int told(int deal, int what) {
        if (deal < 0 || deal >= deals.size()) {
            return UNKNOWN;
        }
        Deal d = deals.get(deal);
        if (what == 6) {
            int before = 0;
            for (int i = 0; i < deals.size(); i++) {
                Deal e = deals.get(i);
                if (e.day < d.day || e.day == d.day && i < deal) {
                    before++;
                }
            }
            return before;
        }
        return switch (what) {
            case 0 -> d.day;
            case 1 -> d.firm;
            case 2 -> d.kind;
            case 3 -> d.from;
            case 4 -> d.to;
            case 5 -> d.n;
            case 7 -> d.day <= looked ? 1 : 0;
            default -> OUTSIDE;
        };
    }

    int look(int day) {
        if (day < 0 || day > 999) {
            return OUTSIDE;
        }
        int before = looked;
        looked = day;
        return before;
    }

    int rule(int what, int n) {
        if (what < 0 || what > 2 || n < 1 || n > 99) {
            return OUTSIDE;
        }
        int before = new int[] {half, deemed, owning}[what];
        half = what == 0 ? n : half;
        deemed = what == 1 ? n : deemed;
        owning = what == 2 ? n : owning;
        return before;
    }

    int holds(int holder, int firm, int what) {
        if (holder < 0 || holder > 9 || firm < 0 || firm > 4) {
            return UNKNOWN;
        }
        Standing s = at(looked);
        return switch (what) {
            case 0 -> s.shares[holder][firm];
            case 1 -> s.votes[holder][firm];
            case 2 -> s.veto[holder][firm] ? 1 : 0;
            default -> OUTSIDE;
        };
    }

    // ---- control

    private static int blockOf(Standing s, int x, Set<Integer> firms, int f) {
        Set<Integer> holders = new TreeSet<>();
        holders.add(x);
        for (int g : firms) {
            holders.add(g + 4);
        }
        int sum = 0;
        for (int h : holders) {
            sum += s.votes[h][f];
        }
        return sum;
    }

    private boolean falls(Standing s, int x, Set<Integer> firms, int f) {
        for (int h = 0; h < 10; h++) {
            if (s.veto[h][f] && h != x && !(h >= 4 && h <= 8 && firms.contains(h - 4))) {
                return false;
            }
        }
        int block = blockOf(s, x, firms, f);
        if (block > half) {
            return true;
        }
        boolean greater = block >= deemed;
        for (int p = 0; p < 4; p++) {
            greater &= p == x || block > s.votes[p][f];
        }
        for (int g = 0; g < 5; g++) {
            greater &= g + 4 == x || firms.contains(g) || block > s.votes[g + 4][f];
        }
        return greater;
    }

    /** The FIRMS that x got in each ROUND, the first one first. */
    private List<Set<Integer>> rounds(Standing s, int x) {
        List<Set<Integer>> rounds = new ArrayList<>();
        Set<Integer> has = new TreeSet<>();
        while (true) {
            Set<Integer> won = new TreeSet<>();
            for (int f = 0; f < 5; f++) {
                if (!has.contains(f) && falls(s, x, has, f)) {
                    won.add(f);
                }
            }
            if (won.isEmpty()) {
                return rounds;
            }
            rounds.add(won);
            has.addAll(won);
        }
    }

    private Set<Integer> controlled(Standing s, int x) {
        Set<Integer> all = new TreeSet<>();
        for (Set<Integer> round : rounds(s, x)) {
            all.addAll(round);
        }
        return all;
    }

    private static int number(Set<Integer> set) {
        int sum = 0;
        for (int i : set) {
            sum += 1 << i;
        }
        return sum;
    }

    private static Set<Integer> set(int number) {
        Set<Integer> set = new TreeSet<>();
        for (int i = 0; i < 10; i++) {
            if ((number >> i) % 2 == 1) {
                set.add(i);
            }
        }
        return set;
    }

    private int roundOf(Standing s, int x, int f) {
        List<Set<Integer>> rounds = rounds(s, x);
        for (int r = 0; r < rounds.size(); r++) {
            if (rounds.get(r).contains(f)) {
                return r + 1;
            }
        }
        return NONE;
    }

    private int witness(Standing s, int x, int f) {
        int round = roundOf(s, x, f);
        if (round == NONE) {
            return NONE;
        }
        Set<Integer> before = new TreeSet<>();
        for (Set<Integer> earlier : rounds(s, x).subList(0, round - 1)) {
            before.addAll(earlier);
        }
        for (int size = 0; size <= 5; size++) {
            for (int number = 0; number < 32; number++) {
                Set<Integer> set = set(number);
                if (set.size() == size && before.containsAll(set) && falls(s, x, set, f)) {
                    return number;
                }
            }
        }
        throw new IllegalStateException("no witness");
    }

    private Set<Integer> chain(Standing s, int x, int f) {
        Set<Integer> chain = new TreeSet<>();
        for (int g : set(witness(s, x, f))) {
            chain.add(g);
            chain.addAll(chain(s, x, g));
        }
        return chain;
    }

    int controls(int holder) {
        return holder < 0 || holder > 8 ? UNKNOWN : number(controlled(at(looked), holder));
    }

    int how(int holder, int firm, int what) {
        if (holder < 0 || holder > 8 || firm < 0 || firm > 4) {
            return UNKNOWN;
        }
        Standing s = at(looked);
        Set<Integer> all = controlled(s, holder);
        boolean is = all.contains(firm);
        int block = blockOf(s, holder, all, firm);
        return switch (what) {
            case 0 -> is ? block > half ? 1 : 2 : 0;
            case 1 -> roundOf(s, holder, firm);
            case 2 -> block;
            case 3 -> witness(s, holder, firm);
            case 4 -> is ? number(chain(s, holder, firm)) : NONE;
            default -> OUTSIDE;
        };
    }

    int above(int firm, int what) {
        if (firm < 0 || firm > 4) {
            return UNKNOWN;
        }
        Standing s = at(looked);
        Set<Integer> persons = new TreeSet<>();
        Set<Integer> firms = new TreeSet<>();
        Set<Integer> vetoes = new TreeSet<>();
        for (int h = 0; h < 9; h++) {
            if (controlled(s, h).contains(firm)) {
                if (h < 4) {
                    persons.add(h);
                } else {
                    firms.add(h - 4);
                }
            }
            if (s.veto[h][firm]) {
                vetoes.add(h);
            }
        }
        return switch (what) {
            case 0 -> number(persons);
            case 1 -> number(firms);
            case 2 -> number(vetoes);
            case 3 -> firms.contains(firm) ? 1 : 0;
            default -> OUTSIDE;
        };
    }

    int when(int holder, int firm, int is) {
        if (holder < 0 || holder > 8 || firm < 0 || firm > 4) {
            return UNKNOWN;
        }
        if (is < 0 || is > 1) {
            return OUTSIDE;
        }
        int done = -1;
        for (int day = looked; day <= 999; day++) {
            List<Deal> some = inOrder(deals, day);
            if (some.size() != done) {
                done = some.size();
                if (controlled(new Standing(some), holder).contains(firm) == (is == 1)) {
                    return day;
                }
            }
        }
        return NONE;
    }

    int fewest(int holder, int firm, int way) {
        if (holder < 0 || holder > 8 || firm < 0 || firm > 4) {
            return UNKNOWN;
        }
        if (way < 0 || way > 1) {
            return OUTSIDE;
        }
        int most = way == 0 ? at(looked).votes[holder][firm] : at(looked).votes[9][firm];
        if (way == 1 && holder == firm + 4) {
            most = 0;
        }
        for (int n = 0; n <= most; n++) {
            Standing s = at(looked);
            s.votes[holder][firm] += way == 0 ? -n : n;
            s.votes[9][firm] += way == 0 ? n : -n;
            if (controlled(s, holder).contains(firm) == (way == 1)) {
                return n;
            }
        }
        return NONE;
    }

    private List<Event> events() {
        List<Event> events = new ArrayList<>();
        boolean[][] before = new boolean[9][5];
        int done = 0;
        for (int day = 0; day <= 999; day++) {
            List<Deal> some = inOrder(deals, day);
            if (some.size() == done) {
                continue; // the same standing as the day before
            }
            done = some.size();
            Standing s = new Standing(some);
            for (int x = 0; x < 9; x++) {
                Set<Integer> all = controlled(s, x);
                for (int f = 0; f < 5; f++) {
                    if (all.contains(f) != before[x][f]) {
                        before[x][f] = !before[x][f];
                        events.add(new Event(day, x, f, before[x][f] ? 1 : 0));
                    }
                }
            }
        }
        return events;
    }

    int event(int i, int what) {
        if (what < 0 || what > 3) {
            return OUTSIDE;
        }
        List<Event> events = events();
        if (i < 0 || i >= events.size()) {
            return NONE;
        }
        Event e = events.get(i);
        return new int[] {e.day, e.holder, e.firm, e.begins}[what];
    }

    // ---- stakes

    private static Set<Integer> locked(Standing s) {
        Set<Integer> greatest = new TreeSet<>();
        for (int number = 0; number < 32; number++) {
            Set<Integer> some = set(number);
            boolean fits = true;
            for (int f : some) {
                int held = 0;
                for (int g : some) {
                    held += s.shares[g + 4][f];
                }
                fits &= held == 100;
            }
            if (fits && some.size() > greatest.size()) {
                greatest = some;
            }
        }
        return greatest;
    }

    /** The STAKES of one owner in all FIRMS: elimination with true fractions, the rows swapped. */
    private static Fraction[] stakesOf(Standing s, int owner) {
        Set<Integer> locked = locked(s);
        Fraction zero = Fraction.of(0, 1);
        Fraction[][] m = new Fraction[5][6];
        for (int f = 0; f < 5; f++) {
            for (int g = 0; g < 5; g++) {
                Fraction part = locked.contains(f) ? zero : Fraction.of(s.shares[g + 4][f], 100);
                m[f][g] = (f == g ? Fraction.of(1, 1) : zero).minus(part);
            }
            m[f][5] = locked.contains(f) ? zero : Fraction.of(s.shares[owner][f], 100);
        }
        for (int c = 0; c < 5; c++) {
            int row = 4;
            while (row > c && m[row][c].isZero()) {
                row--;
            }
            Fraction[] swap = m[row];
            m[row] = m[c];
            m[c] = swap;
            for (int r = 0; r < 5; r++) {
                if (r != c) {
                    Fraction factor = m[r][c].by(m[c][c]);
                    for (int j = 0; j < 6; j++) {
                        m[r][j] = m[r][j].minus(factor.times(m[c][j]));
                    }
                }
            }
        }
        Fraction[] stakes = new Fraction[5];
        for (int f = 0; f < 5; f++) {
            stakes[f] = m[f][5].by(m[f][f]);
        }
        return stakes;
    }

    private static long part(Fraction fraction, int what) {
        return (what == 0 ? fraction.upper : fraction.lower).longValueExact();
    }

    long stake(int holder, int firm, int what) {
        if (holder < 0 || holder > 9 || holder >= 4 && holder <= 8 || firm < 0 || firm > 4) {
            return UNKNOWN;
        }
        if (what < 0 || what > 1) {
            return OUTSIDE;
        }
        return part(stakesOf(at(looked), holder)[firm], what);
    }

    long nobody(int firm, int what) {
        if (firm < 0 || firm > 4) {
            return UNKNOWN;
        }
        if (what < 0 || what > 1) {
            return OUTSIDE;
        }
        Fraction left = Fraction.of(1, 1).minus(stakesOf(at(looked), 9)[firm]);
        for (int p = 0; p < 4; p++) {
            left = left.minus(stakesOf(at(looked), p)[firm]);
        }
        return part(left, what);
    }

    int ranked(int firm, int i) {
        if (firm < 0 || firm > 4) {
            return UNKNOWN;
        }
        Standing s = at(looked);
        List<Integer> persons = new ArrayList<>();
        for (int p = 0; p < 4; p++) {
            if (!stakesOf(s, p)[firm].isZero()) {
                persons.add(p);
            }
        }
        persons.sort((p, q) -> stakesOf(s, q)[firm].compare(stakesOf(s, p)[firm]));
        return i < 0 || i >= persons.size() ? NONE : persons.get(i);
    }

    int owners(int firm) {
        if (firm < 0 || firm > 4) {
            return UNKNOWN;
        }
        Standing s = at(looked);
        Set<Integer> owners = new TreeSet<>();
        for (int p = 0; p < 4; p++) {
            boolean owns = stakesOf(s, p)[firm].compare(Fraction.of(owning, 100)) > 0;
            if (owns || controlled(s, p).contains(firm)) {
                owners.add(p);
            }
        }
        return number(owners);
    }

    private static Set<Integer> reached(Standing s, int firm) {
        Set<Integer> reached = new TreeSet<>();
        List<Integer> open = new ArrayList<>(List.of(firm));
        while (!open.isEmpty()) {
            int g = open.remove(open.size() - 1);
            for (int f = 0; f < 5; f++) {
                if (s.shares[g + 4][f] > 0 && reached.add(f)) {
                    open.add(f);
                }
            }
        }
        return reached;
    }

    int circle(int firm) {
        if (firm < 0 || firm > 4) {
            return UNKNOWN;
        }
        Standing s = at(looked);
        Set<Integer> circle = reached(s, firm);
        circle.removeIf(g -> !reached(s, g).contains(firm));
        return number(circle);
    }

    // ---- images

    int image(int k) {
        if (k < 0 || k > 1) {
            return OUTSIDE;
        }
        images[k] = new Image(List.copyOf(deals), looked, half, deemed, owning);
        return 1;
    }

    int restore(int k) {
        if (k < 0 || k > 1) {
            return OUTSIDE;
        }
        if (images[k] == null) {
            return STATE;
        }
        deals = new ArrayList<>(images[k].deals);
        looked = images[k].looked;
        half = images[k].half;
        deemed = images[k].deemed;
        owning = images[k].owning;
        return 1;
    }

    int count(int what) {
        if (what >= 10 && what <= 49) {
            Set<Integer> days = new TreeSet<>();
            for (Deal d : deals) {
                days.add(d.day);
            }
            List<Integer> rising = new ArrayList<>(days);
            return what - 10 < rising.size() ? rising.get(what - 10) : NONE;
        }
        Standing s = at(looked);
        int most = 0;
        for (int x = 0; x < 9; x++) {
            most = Math.max(most, rounds(s, x).size());
        }
        return switch (what) {
            case 0 -> deals.size();
            case 1 -> looked;
            case 2 -> half;
            case 3 -> deemed;
            case 4 -> owning;
            case 5 -> inOrder(deals, looked).size();
            case 6 -> most;
            case 7 -> events().size();
            case 8 -> number(locked(s));
            case 9 -> (images[0] != null ? 1 : 0) + (images[1] != null ? 2 : 0);
            default -> OUTSIDE;
        };
    }
}
