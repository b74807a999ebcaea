import java.util.ArrayList;
import java.util.List;
import java.util.function.LongSupplier;

/**
 * Two ovens with one story, of which only one is asked: what both answer behind it tells whether
 * the call changed anything.
 */
final class Twins {
    static final int NONE = -1, BAD = -2, NOT = -3, FULL = -4;

    interface Call {
        long on(VillageOven x);
    }

    interface Numbered {
        long on(VillageOven x, int v);
    }

    private interface Look {
        void at(VillageOven x, Answers answers);
    }

    private static final List<Look> LOOKS =
        List.of(Twins::lookAtOven, Twins::lookAtBread, Twins::lookAtPlans, Twins::lookAtTurns, Twins::lookAtNotes);
    private static final int MOST_CALLS = 512;
    /** Loaves with numbers below this one are looked at. */
    private static final int LOAVES = 18;

    private Twins() {
    }

    /** What is due is answered, and nothing changes: for refused calls, and for those that only look. */
    static void unmoved(String what, Stories.Story story, Call call, long due) {
        unmoved(what, story, Stories.LONGEST, call, due);
    }

    static void unmoved(String what, Stories.Story story, int storyCalls, Call call, long due) {
        for (Look look : LOOKS) {
            VillageOven asked = new VillageOven();
            VillageOven left = new VillageOven();
            story.tell(asked);
            story.tell(left);
            Check.due(what, call.on(asked), due);
            Answers got = new Answers(MOST_CALLS - storyCalls - 1);
            Answers want = new Answers(MOST_CALLS - storyCalls - 1);
            look.at(asked, got);
            look.at(left, want);
            compare(what, got, want);
        }
    }

    /** The same in a new oven, in one at rest, and in one with loaves inside, its door shut or open. */
    static void unmovedEverywhere(String what, Call call, long due) {
        unmoved("new oven: " + what, Stories::untouched, call, due);
        unmoved("resting oven: " + what, Stories::resting, call, due);
        unmovedWithLoaves(what, call, due);
    }

    static void unmovedWithLoaves(String what, Call call, long due) {
        unmovedBehind(what, Stories::untouched, call, due);
    }

    /** With loaves inside, behind what more is told, which mostly fills something up. */
    static void unmovedBehind(String what, Stories.Story more, Call call, long due) {
        unmoved("busy oven: " + what, x -> {
            Stories.busy(x);
            more.tell(x);
        }, call, due);
        unmoved("open oven: " + what, x -> {
            Stories.opened(x);
            more.tell(x);
        }, call, due);
    }

    /** low and high are taken; what is beyond them, near and far, is BAD and changes nothing. */
    static void bounds(String what, Stories.Story story, int low, int high, Numbered call) {
        taken(what, story, low, call);
        taken(what, story, high, call);
        long[] beyond = {low - 1L, high + 1L, Integer.MIN_VALUE, Integer.MAX_VALUE};
        for (long v : beyond) {
            if (v == (int) v && (v < low || v > high)) {
                unmoved(what + " with " + v, story, x -> call.on(x, (int) v), BAD);
            }
        }
    }

    private static void taken(String what, Stories.Story story, int v, Numbered call) {
        VillageOven x = new VillageOven();
        story.tell(x);
        Check.holds(what + " with " + v + " is taken", call.on(x, v) >= NONE);
    }

    private static void compare(String what, Answers got, Answers want) {
        boolean alike = got.values.equals(want.values);
        Check.holds(what + " changes nothing", alike);
        for (int i = 0; i < got.values.size() && !alike; i++) {
            if (i >= want.values.size() || !got.values.get(i).equals(want.values.get(i))) {
                System.out.println("  behind it " + got.names.get(i) + " answered " + got.values.get(i));
                return;
            }
        }
    }

    /** Asks no more than the calls that are left of an oven's 512. */
    private static final class Answers {
        final List<String> names = new ArrayList<>();
        final List<Long> values = new ArrayList<>();
        final int most;

        Answers(int mostCalls) {
            most = mostCalls;
        }

        long ask(String name, LongSupplier call) {
            if (values.size() >= most) {
                return BAD;
            }
            long value = call.getAsLong();
            names.add(name);
            values.add(value);
            return value;
        }
    }

    private static void lookAtCounts(VillageOven x, Answers a) {
        for (int i = 0; i < 9; i++) {
            int what = i;
            a.ask("count(" + i + ")", () -> x.count(what));
        }
        for (int i = 0; i < 5; i++) {
            int what = i;
            a.ask("sum(" + i + ")", () -> x.sum(what));
        }
    }

    private static void lookAtHeats(VillageOven x, Answers a) {
        for (int i = 0; i < 12; i++) {
            int ring = i / 3;
            int layer = i % 3;
            a.ask("heat(" + ring + ", " + layer + ", 0)", () -> x.heat(ring, layer, 0));
        }
    }

    /** A tick in cold air tells whether the door was open; each tick behind it tells one log. */
    private static void lookAtOven(VillageOven x, Answers a) {
        lookAtCounts(x, a);
        lookAtHeats(x, a);
        a.ask("wood", () -> x.wood(250, 3, 3, 30, 20));
        a.ask("air(0)", () -> x.air(0));
        a.ask("ticks(1)", () -> x.ticks(1));
        lookAtHeats(x, a);
        for (int i = 0; i < 32; i++) {
            a.ask("ticks(1)", () -> x.ticks(1));
            a.ask("sum(0)", () -> x.sum(0));
            a.ask("sum(2)", () -> x.sum(2));
        }
        lookAtHeats(x, a);
        for (int i = 0; i < 4; i++) {
            int ring = i;
            a.ask("damp(" + i + ", 0)", () -> x.damp(ring, 0));
            a.ask("crack(" + i + ", 0)", () -> x.crack(ring, 0));
        }
        a.ask("fire(0)", () -> x.fire(0));
    }

    private static void lookAtBread(VillageOven x, Answers a) {
        lookAtCounts(x, a);
        for (int i = 0; i < 4; i++) {
            int ring = i;
            a.ask("room(" + i + ")", () -> x.room(ring));
        }
        a.ask("air(0)", () -> x.air(0));
        a.ask("ticks(1)", () -> x.ticks(1));
        a.ask("sum(2)", () -> x.sum(2));
        for (int i = 0; i < LOAVES * 6; i++) {
            int loaf = i / 6;
            int what = i % 6;
            a.ask("loaf(" + loaf + ", " + what + ")", () -> x.loaf(loaf, what));
        }
        takeAll(x, a);
        for (int i = 0; i < 8; i++) {
            lookAtKind(x, a, i);
        }
        lookAtCounts(x, a);
    }

    private static void takeAll(VillageOven x, Answers a) {
        for (int i = 0; i < LOAVES; i++) {
            int loaf = i;
            a.ask("take(" + i + ")", () -> x.take(loaf));
        }
    }

    /** Long enough for each second heat to begin. */
    private static void lookAtKind(VillageOven x, Answers a, int kind) {
        int loaf = (int) a.ask("put(" + kind + ", 1)", () -> x.put(kind, 1));
        a.ask("room(1)", () -> x.room(1));
        for (int i = 0; i < 2; i++) {
            int n = i == 0 ? 2 : 33;
            a.ask("ticks(" + n + ")", () -> x.ticks(n));
            for (int k = 2; k < 6; k++) {
                int what = k;
                a.ask("loaf of kind " + kind + ", " + k, () -> x.loaf(loaf, what));
            }
        }
        a.ask("take of kind " + kind, () -> x.take(loaf));
    }

    private static void lookAtPlans(VillageOven x, Answers a) {
        lookAtCounts(x, a);
        lookAtPlan(x, a);
        takeAll(x, a);
        lookAtPlan(x, a);
        a.ask("opening(39)", () -> x.opening(39));
        lookAtPlan(x, a);
        a.ask("order(0)", () -> x.order(0));
        lookAtPlan(x, a);
        a.ask("clear()", () -> x.clear());
        for (int i = 0; i < 8; i++) {
            int kind = i;
            a.ask("order(" + i + ")", () -> x.order(kind));
            a.ask("opening(" + 4 * i + ")", () -> x.opening(4 * kind));
        }
        lookAtPlan(x, a);
        a.ask("clear()", () -> x.clear());
        a.ask("wood", () -> x.wood(300, 3, 0, 30, 0));
    }

    private static void lookAtPlan(VillageOven x, Answers a) {
        a.ask("plan()", () -> x.plan());
        for (int i = 0; i < 12; i++) {
            int order = i / 3;
            int what = i % 3;
            a.ask("planned(" + order + ", " + what + ")", () -> x.planned(order, what));
        }
        a.ask("last(0)", () -> x.last(0));
        a.ask("last(1)", () -> x.last(1));
    }

    private static void lookAtTurns(VillageOven x, Answers a) {
        a.ask("count(8)", () -> x.count(8));
        for (int i = 0; i < 9; i++) {
            int household = i;
            a.ask("waits(" + i + ", 0, 60, 0)", () -> x.waits(household, 0, 60, 0));
            a.ask("waits(" + i + ", 0, 60, 1)", () -> x.waits(household, 0, 60, 1));
            a.ask("at(0, " + i + ")", () -> x.at(0, household));
        }
        for (int i = 0; i < 61 * 4; i++) {
            int week = i / 4;
            int place = i % 4;
            a.ask("at(" + week + ", " + place + ")", () -> x.at(week, place));
        }
        a.ask("slots(1)", () -> x.slots(1));
        a.ask("households(2)", () -> x.households(2));
        a.ask("at(1, 0)", () -> x.at(1, 0));
    }

    private static void lookAtNotes(VillageOven x, Answers a) {
        a.ask("count(7)", () -> x.count(7));
        for (int i = 0; i < 4; i++) {
            int what = i;
            a.ask("best(" + i + ")", () -> x.best(what));
        }
        a.ask("explains(0, 0, 0)", () -> x.explains(0, 0, 0));
        for (int i = 0; i < 8 * 13; i++) {
            int sort = 1 + i % 2;
            int ring = i / 2 % 4;
            int week = i / 8 * 5;
            a.ask("explains(" + sort + ", " + ring + ", " + week + ")", () -> x.explains(sort, ring, week));
        }
        a.ask("bricks(0, 30)", () -> x.bricks(0, 30));
        for (int i = 0; i < 61 * 4; i++) {
            int week = i / 4;
            int ring = i % 4;
            a.ask("note(" + week + ", " + ring + ", 0)", () -> x.note(week, ring, 0));
        }
    }
}
