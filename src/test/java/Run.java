import java.util.ArrayList;
import java.util.Arrays;
import java.util.List;

/**
 * One run of calls on one object, for one sentence of the document. What was called is kept, so that a call that
 * is due to be refused can be made on like objects, too: all that can be asked of these must be answered as if the
 * refused call had never been. No object of a run gets more calls than the document grants it.
 */
final class Run {
    static final int UNKNOWN = -1, OUTSIDE = -2, STATE = -3, FULL = -4, NO = -5, NONE = -6;
    static final int REST = 9;

    private static final int MOST_CALLS = 512;
    private static final int HOLDERS = 10;
    private static final int FIRMS = 5;
    private static final int DEALS = 40;

    record Call(String name, int... args) {
        @Override
        public String toString() {
            String list = Arrays.toString(args);
            return name + "(" + list.substring(1, list.length() - 1) + ")";
        }
    }

    /** One object, and how many calls it got. */
    private static final class Subject {
        private final ControlRegister register = new ControlRegister();
        private int calls;

        long[] answers(List<Call> some) {
            long[] answers = new long[some.size()];
            for (int i = 0; i < answers.length; i++) {
                answers[i] = answer(some.get(i));
            }
            return answers;
        }

        long answer(Call call) {
            calls++;
            if (calls > MOST_CALLS) {
                throw new IllegalStateException("a test makes more calls than the document grants");
            }
            ControlRegister x = register;
            int[] a = call.args;
            return switch (call.name) {
                case "sellShares" -> x.sellShares(a[0], a[1], a[2], a[3], a[4]);
                case "sellVotes" -> x.sellVotes(a[0], a[1], a[2], a[3], a[4]);
                case "veto" -> x.veto(a[0], a[1], a[2], a[3]);
                case "cancel" -> x.cancel(a[0]);
                case "told" -> x.told(a[0], a[1]);
                case "look" -> x.look(a[0]);
                case "rule" -> x.rule(a[0], a[1]);
                case "holds" -> x.holds(a[0], a[1], a[2]);
                case "controls" -> x.controls(a[0]);
                case "how" -> x.how(a[0], a[1], a[2]);
                case "above" -> x.above(a[0], a[1]);
                case "when" -> x.when(a[0], a[1], a[2]);
                case "fewest" -> x.fewest(a[0], a[1], a[2]);
                case "event" -> x.event(a[0], a[1]);
                case "stake" -> x.stake(a[0], a[1], a[2]);
                case "nobody" -> x.nobody(a[0], a[1]);
                case "ranked" -> x.ranked(a[0], a[1]);
                case "owners" -> x.owners(a[0]);
                case "circle" -> x.circle(a[0]);
                case "image" -> x.image(a[0]);
                case "restore" -> x.restore(a[0]);
                case "count" -> x.count(a[0]);
                default -> throw new IllegalArgumentException(call.name);
            };
        }
    }

    /** All that can be asked (the first forty EVENTS), in parts so small that an object can be asked one twice. */
    private static final List<List<Call>> ASKED = asked();
    /** What the IMAGES keep: these parts change the object that they ask. */
    private static final List<List<Call>> ASKED_OF_IMAGES = askedOfImages();

    private final Check check;
    private final String sentence;
    private final Subject subject = new Subject();
    private final List<Call> story = new ArrayList<>();
    /** The answers to all that can be asked after the story; null if they are not known yet. */
    private List<long[]> picture;

    Run(Check check, String sentence) {
        this.check = check;
        this.sentence = sentence;
    }

    /** The call is answered so; it may change what it will. */
    void gives(long want, String name, int... args) {
        Call call = new Call(name, args.clone());
        check.due(sentence + ": " + call, subject.answer(call), want);
        story.add(call);
        picture = null;
    }

    /** The call is answered so, and changes nothing, whether or not anything was asked before it. */
    void keeps(long want, String name, int... args) {
        Call call = new Call(name, args.clone());
        check.due(sentence + ": " + call, subject.answer(call), want);
        takePicture();
        for (int part = 0; part < picture.size(); part++) {
            long[] before = picture.get(part);
            boolean ofImages = part >= ASKED.size();
            List<Call> asked = ofImages ? ASKED_OF_IMAGES.get(part - ASKED.size()) : ASKED.get(part);
            Subject fresh = toldTheStory();
            fresh.answer(call);
            compare(call, asked, before, fresh.answers(asked));
            if (!ofImages) {
                Subject askedBefore = toldTheStory();
                askedBefore.answers(asked);
                askedBefore.answer(call);
                compare(call, asked, before, askedBefore.answers(asked));
            }
        }
    }

    /** The call is refused with every number out of first to last in the place of one of its arguments. */
    void keepsBeyond(long want, int first, int last, int place, String name, int... args) {
        for (int number : beyond(first, last)) {
            int[] some = args.clone();
            some[place] = number;
            keeps(want, name, some);
        }
    }

    /** The next numbers out of first to last, the farthest ones, and those that a narrower number would wrap inside. */
    static List<Integer> beyond(int first, int last) {
        int[] candidates = {first - 1, first - 2, last + 1, last + 2, Integer.MIN_VALUE, Integer.MIN_VALUE + first,
            Integer.MIN_VALUE + last, Integer.MAX_VALUE, Integer.MAX_VALUE - last, first + 32, last + 32, last - 32,
            first + 256, last + 256, first - 256, first + 65536, last + 65536, last - 65536};
        List<Integer> out = new ArrayList<>();
        for (int number : candidates) {
            if ((number < first || number > last) && !out.contains(number)) {
                out.add(number);
            }
        }
        return out;
    }

    private void takePicture() {
        if (picture != null) {
            return;
        }
        picture = new ArrayList<>();
        for (List<Call> part : ASKED) {
            picture.add(toldTheStory().answers(part));
        }
        for (List<Call> part : ASKED_OF_IMAGES) {
            picture.add(toldTheStory().answers(part));
        }
    }

    private Subject toldTheStory() {
        Subject like = new Subject();
        like.answers(story);
        return like;
    }

    private void compare(Call call, List<Call> asked, long[] before, long[] after) {
        int unlike = Arrays.mismatch(before, after);
        String what = sentence + ": " + call + " changes nothing";
        if (unlike >= 0) {
            check.due(what + ", " + asked.get(unlike), after[unlike], before[unlike]);
        } else {
            check.isTrue(what, true);
        }
    }

    private static List<List<Call>> asked() {
        List<List<Call>> parts = new ArrayList<>();
        parts.add(ofAllAndOfFirms());
        parts.addAll(ofDeals());
        parts.add(ofPairs("holds", 0, HOLDERS, 3));
        parts.add(ofPairs("how", 0, 4, 5));
        parts.add(ofPairs("how", 4, 9, 5));
        parts.add(ofPairs("when", 0, 9, 2));
        parts.add(ofPairs("stake", 0, HOLDERS, 2));
        parts.add(ofPairs("fewest", 0, 9, 2));
        List<Call> events = new ArrayList<>();
        for (int i = 0; i < 40; i++) {
            for (int what = 0; what < 4; what++) {
                events.add(new Call("event", i, what));
            }
        }
        parts.add(events);
        return parts;
    }

    private static List<Call> ofAllAndOfFirms() {
        List<Call> part = counts();
        for (int holder = 0; holder < HOLDERS; holder++) {
            part.add(new Call("controls", holder));
        }
        for (int firm = 0; firm < FIRMS; firm++) {
            part.add(new Call("owners", firm));
            part.add(new Call("circle", firm));
            for (int i = 0; i < 4; i++) {
                part.add(new Call("above", firm, i));
                part.add(new Call("ranked", firm, i));
            }
            part.add(new Call("nobody", firm, 0));
            part.add(new Call("nobody", firm, 1));
        }
        return part;
    }

    private static List<Call> counts() {
        List<Call> part = new ArrayList<>();
        for (int what = 0; what < 50; what++) {
            part.add(new Call("count", what));
        }
        return part;
    }

    /** The one behind the last possible DEAL is asked for, too. */
    private static List<List<Call>> ofDeals() {
        List<List<Call>> parts = new ArrayList<>();
        for (int first = 0; first <= DEALS; first += 14) {
            List<Call> part = new ArrayList<>();
            for (int deal = first; deal < Math.min(first + 14, DEALS + 1); deal++) {
                for (int what = 0; what < 8; what++) {
                    part.add(new Call("told", deal, what));
                }
            }
            parts.add(part);
        }
        return parts;
    }

    private static List<Call> ofPairs(String name, int firstHolder, int endOfHolders, int endOfWhat) {
        List<Call> part = new ArrayList<>();
        for (int holder = firstHolder; holder < endOfHolders; holder++) {
            for (int firm = 0; firm < FIRMS; firm++) {
                for (int what = 0; what < endOfWhat; what++) {
                    part.add(new Call(name, holder, firm, what));
                }
            }
        }
        return part;
    }

    private static List<List<Call>> askedOfImages() {
        List<List<Call>> parts = new ArrayList<>();
        for (int k = 0; k < 2; k++) {
            List<List<Call>> some = new ArrayList<>(ofDeals());
            some.add(counts());
            for (List<Call> part : some) {
                part.add(0, new Call("restore", k));
                parts.add(part);
            }
        }
        return parts;
    }
}
