/** Long runs of calls, drawn by a fixed row of numbers, answered alike by the class and by the reference. */
public final class RandomRunsTest {
    private static final String[] ALL = {"air", "damp", "crack", "fire", "log", "ticks", "heat", "sum", "kind", "second",
        "put", "move", "take", "loaf", "room", "order", "opening", "clear", "plan", "planned", "last", "wood",
        "households", "custom", "told", "slots", "at", "waits", "note", "lose", "bricks", "best", "explains", "count"};
    private static final String[] OVEN = {"air", "damp", "crack", "fire", "log", "log", "log", "log", "ticks", "ticks",
        "heat", "heat", "sum", "sum", "count"};
    private static final String[] BREAD = {"log", "ticks", "ticks", "kind", "second", "put", "put", "put", "put", "move",
        "move", "take", "take", "loaf", "loaf", "loaf", "room", "sum", "heat", "count"};
    private static final String[] PLAN = {"log", "log", "log", "ticks", "kind", "kind", "second", "order", "order",
        "order", "opening", "opening", "clear", "plan", "planned", "planned", "planned", "last", "wood", "damp", "crack",
        "fire", "put", "take", "take"};
    private static final String[] TURNS = {"households", "custom", "told", "told", "told", "told", "told", "slots", "at",
        "at", "at", "at", "at", "waits", "waits", "count"};
    private static final String[] NOTES = {"note", "note", "note", "note", "note", "note", "note", "lose", "bricks",
        "best", "best", "explains", "count"};

    /** An object is used for 512 calls at most; compareAll makes the rest of them. */
    private static final int LONGEST = 512 - 39;

    private static long state = 20261118L;
    private static VillageOven x;
    private static Reference y;

    public static void main(String[] args) {
        runs("oven", OVEN, 40, 300);
        runs("bread", BREAD, 60, LONGEST);
        runs("plan", PLAN, 150, 200);
        runs("turns", TURNS, 40, 300);
        runs("notes", NOTES, 30, 300);
        runs("all", ALL, 40, LONGEST);
        Check.finish();
    }

    private static void runs(String name, String[] calls, int runs, int length) {
        for (int run = 0; run < runs; run++) {
            x = new VillageOven();
            y = new Reference();
            for (int i = 0; i < length; i++) {
                oneCall(name + " " + run + ": call " + i + " ", calls[draw(calls.length)]);
            }
            compareAll(name + " " + run + " at its end: ");
        }
    }

    private static int draw(int below) {
        state = state * 6364136223846793005L + 1442695040888963407L;
        return (int) ((state >>> 33) % below);
    }

    /** Mostly within low .. high, often at an edge, now and then beyond it. */
    private static int num(int low, int high) {
        int way = draw(40);
        if (way == 0) {
            return low - 1;
        }
        if (way == 1) {
            return high + 1;
        }
        if (way == 2) {
            return draw(2) == 0 ? Integer.MIN_VALUE : Integer.MAX_VALUE;
        }
        if (way < 6) {
            return low;
        }
        return way < 9 ? high : low + draw(Math.max(1, high - low + 1));
    }

    /** Near the warmth of a ring now, so that kinds differ by rings and some are scorched. */
    private static int below(int ring, int less) {
        return (int) Math.max(0, Math.min(1800, y.heat(ring, 0, 1) - draw(less)));
    }

    private static void oneCall(String where, String call) {
        int a;
        int b;
        int c;
        switch (call) {
            case "air":
                a = num(0, 40);
                Check.due(where + "air(" + a + ")", x.air(a), y.air(a));
                break;
            case "damp":
                a = num(0, 3);
                b = num(0, 1000);
                Check.due(where + "damp(" + a + ", " + b + ")", x.damp(a, b), y.damp(a, b));
                break;
            case "crack":
                a = num(0, 3);
                b = num(0, 4);
                Check.due(where + "crack(" + a + ", " + b + ")", x.crack(a, b), y.crack(a, b));
                break;
            case "fire":
                a = num(0, 2);
                Check.due(where + "fire(" + a + ")", x.fire(a), y.fire(a));
                break;
            case "log":
                a = num(1, 50);
                b = num(0, 60);
                Check.due(where + "log(" + a + ", " + b + ")", x.log(a, b), y.log(a, b));
                break;
            case "ticks":
                a = draw(3) == 0 ? num(1, 60) : 1 + draw(4);
                Check.due(where + "ticks(" + a + ")", x.ticks(a), y.ticks(a));
                break;
            case "heat":
                a = num(0, 3);
                b = num(0, 2);
                c = num(0, 1);
                Check.due(where + "heat(" + a + ", " + b + ", " + c + ")", x.heat(a, b, c), y.heat(a, b, c));
                break;
            case "sum":
                a = num(0, 4);
                Check.due(where + "sum(" + a + ")", x.sum(a), y.sum(a));
                break;
            default:
                breadCall(where, call);
        }
    }

    private static void breadCall(String where, String call) {
        int a;
        int b;
        int c;
        int d;
        int e;
        int g;
        boolean f;
        int kinds = y.breads.size();
        int loaves = y.pieces.size();
        switch (call) {
            case "kind":
                a = num(1, 3);
                f = draw(2) == 0;
                b = draw(2) == 0 ? num(1, 30) : 1 + draw(3);
                c = draw(2) == 0 ? num(b, 60) : b + draw(10);
                d = draw(3) == 0 ? num(0, 2000) : below(draw(4), 60);
                e = draw(3) == 0 ? num(d, 2000) : d + 60 + draw(120);
                g = draw(2) == 0 ? num(0, 9) : draw(2);
                Check.due(where + "kind(" + a + ", " + f + ", " + b + ", " + c + ", " + d + ", " + e + ", " + g + ")",
                    x.kind(a, f, b, c, d, e, g), y.kind(a, f, b, c, d, e, g));
                break;
            case "second":
                a = num(0, kinds - 1);
                b = draw(2) == 0 ? num(1, 30) : 1 + draw(4);
                c = draw(2) == 0 ? num(0, 2000) : draw(200);
                d = num(c, 2000);
                Check.due(where + "second(" + a + ", " + b + ", " + c + ", " + d + ")", x.second(a, b, c, d),
                    y.second(a, b, c, d));
                break;
            case "put":
                a = num(0, kinds - 1);
                b = num(0, 3);
                Check.due(where + "put(" + a + ", " + b + ")", x.put(a, b), y.put(a, b));
                break;
            case "move":
                a = draw(3) == 0 ? num(0, loaves - 1) : loaves - 1 - draw(8);
                b = num(0, 3);
                Check.due(where + "move(" + a + ", " + b + ")", x.move(a, b), y.move(a, b));
                break;
            case "take":
                a = draw(3) == 0 ? num(0, loaves - 1) : loaves - 1 - draw(8);
                Check.due(where + "take(" + a + ")", x.take(a), y.take(a));
                break;
            case "loaf":
                a = num(0, loaves - 1);
                b = num(0, 5);
                Check.due(where + "loaf(" + a + ", " + b + ")", x.loaf(a, b), y.loaf(a, b));
                break;
            case "room":
                a = num(0, 3);
                Check.due(where + "room(" + a + ")", x.room(a), y.room(a));
                break;
            default:
                planCall(where, call);
        }
    }

    private static void planCall(String where, String call) {
        int a;
        int b;
        int c;
        int d;
        int e;
        switch (call) {
            case "order":
                a = num(0, y.breads.size() - 1);
                Check.due(where + "order(" + a + ")", x.order(a), y.order(a));
                break;
            case "opening":
                int behind = y.openings.isEmpty() ? 0 : y.openings.get(y.openings.size() - 1) + 1;
                a = draw(2) == 0 ? num(0, 40) : behind + draw(6);
                Check.due(where + "opening(" + a + ")", x.opening(a), y.opening(a));
                break;
            case "clear":
                Check.due(where + "clear()", x.clear(), y.clear());
                break;
            case "plan":
                Check.due(where + "plan()", x.plan(), y.plan());
                break;
            case "planned":
                a = num(0, y.orders.size() - 1);
                b = num(0, 2);
                Check.due(where + "planned(" + a + ", " + b + ")", x.planned(a, b), y.planned(a, b));
                break;
            case "last":
                a = num(0, 1);
                Check.due(where + "last(" + a + ")", x.last(a), y.last(a));
                break;
            case "wood":
                a = draw(2) == 0 ? num(0, 2000) : draw(400);
                b = num(0, 3);
                c = num(0, 40);
                d = num(1, 50);
                e = num(0, 60);
                Check.due(where + "wood(" + a + ", " + b + ", " + c + ", " + d + ", " + e + ")", x.wood(a, b, c, d, e),
                    y.wood(a, b, c, d, e));
                break;
            default:
                turnsCall(where, call);
        }
    }

    private static void turnsCall(String where, String call) {
        int a;
        int b;
        int c;
        int d;
        boolean f;
        switch (call) {
            case "households":
                a = draw(4) == 0 ? num(2, 8) : 1;
                Check.due(where + "households(" + a + ")", x.households(a), y.households(a));
                break;
            case "custom":
                a = num(0, 1);
                b = num(0, 2147483646);
                Check.due(where + "custom(" + a + ", " + b + ")", x.custom(a, b), y.custom(a, b));
                break;
            case "told":
                a = draw(2) == 0 ? num(0, 60) : draw(4);
                b = num(0, y.n - 1);
                c = num(0, y.n - 1);
                f = draw(2) == 0;
                Check.due(where + "told(" + a + ", " + b + ", " + c + ", " + f + ")", x.told(a, b, c, f),
                    y.told(a, b, c, f));
                break;
            case "slots":
                a = num(1, 8);
                Check.due(where + "slots(" + a + ")", x.slots(a), y.slots(a));
                break;
            case "at":
                a = draw(2) == 0 ? num(0, 60) : draw(4);
                b = num(0, y.n - 1);
                Check.due(where + "at(" + a + ", " + b + ")", x.at(a, b), y.at(a, b));
                break;
            case "waits":
                a = num(0, y.n - 1);
                b = num(0, 60);
                c = draw(2) == 0 ? num(0, 60) : num(b, 60);
                d = num(0, 1);
                Check.due(where + "waits(" + a + ", " + b + ", " + c + ", " + d + ")", x.waits(a, b, c, d),
                    y.waits(a, b, c, d));
                break;
            default:
                noteCall(where, call);
        }
    }

    private static void noteCall(String where, String call) {
        int a;
        int b;
        int c;
        switch (call) {
            case "note":
                a = num(0, 60);
                b = draw(2) == 0 ? num(0, 3) : 2;
                c = num(0, 3);
                Check.due(where + "note(" + a + ", " + b + ", " + c + ")", x.note(a, b, c), y.note(a, b, c));
                break;
            case "lose":
                a = num(0, 60);
                Check.due(where + "lose(" + a + ")", x.lose(a), y.lose(a));
                break;
            case "bricks":
                a = num(0, 3);
                b = num(0, 60);
                Check.due(where + "bricks(" + a + ", " + b + ")", x.bricks(a, b), y.bricks(a, b));
                break;
            case "best":
                a = num(0, 3);
                Check.due(where + "best(" + a + ")", x.best(a), y.best(a));
                break;
            case "explains":
                a = num(0, 2);
                b = num(0, 3);
                c = num(0, 60);
                Check.due(where + "explains(" + a + ", " + b + ", " + c + ")", x.explains(a, b, c), y.explains(a, b, c));
                break;
            default:
                a = num(0, 8);
                Check.due(where + "count(" + a + ")", x.count(a), y.count(a));
        }
    }

    private static void compareAll(String where) {
        for (int i = 0; i < 12; i++) {
            Check.due(where + "heat " + i, x.heat(i / 3, i % 3, 0), y.heat(i / 3, i % 3, 0));
        }
        for (int i = 0; i < 5; i++) {
            Check.due(where + "sum " + i, x.sum(i), y.sum(i));
        }
        Check.due(where + "what came in is held, lost or given", x.sum(0) + x.sum(4), x.sum(1) + x.sum(2) + x.sum(3));
        for (int i = 0; i < 9; i++) {
            Check.due(where + "count " + i, x.count(i), y.count(i));
        }
        for (int i = 0; i < 4; i++) {
            Check.due(where + "room " + i, x.room(i), y.room(i));
            Check.due(where + "best " + i, x.best(i), y.best(i));
        }
    }
}
