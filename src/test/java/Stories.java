/** Ovens with a history. A story is told anew for each look at it, so that two ovens can be alike. */
final class Stories {
    interface Story {
        void tell(VillageOven x);
    }

    /** No story has more calls than this, so that enough of the 512 are left to look at what it made. */
    static final int LONGEST = 150;

    /** What a busy oven has of each, so that a test can fill it up to the edge. */
    static final int BUSY_LOGS = 3, BUSY_KINDS = 4, BUSY_TOLD = 3, BUSY_BRICKS = 2;

    private Stories() {
    }

    static void untouched(VillageOven x) {
    }

    /** Warm, damp and cracked, with logs, kinds, orders, openings, turns and notes; no loaf inside, the door shut. */
    static void resting(VillageOven x) {
        warm(x);
        kinds(x);
        x.put(3, 3);
        x.put(1, 1);
        x.ticks(2);
        x.take(0);
        x.ticks(1);
        x.take(1);
        x.ticks(1);
        x.order(3);
        x.order(2);
        x.order(0);
        x.opening(2);
        x.opening(5);
        households(x);
        notes(x);
    }

    /** The same with loaves inside, among them a crown with one in its hole; the door shut. */
    static void busy(VillageOven x) {
        resting(x);
        x.put(0, 0);
        x.put(1, 2);
        x.put(3, 2);
        x.put(2, 3);
        x.ticks(1);
    }

    /** Busy, and one was moved just now: the next tick has an open door. */
    static void opened(VillageOven x) {
        busy(x);
        x.move(2, 1);
    }

    private static void warm(VillageOven x) {
        x.air(5);
        x.damp(0, 300);
        x.damp(3, 7);
        x.crack(1, 4);
        x.crack(2, 1);
        x.fire(1);
        x.log(50, 0);
        x.log(40, 0);
        x.ticks(2);
        for (int i = 0; i < 8; i++) {
            x.log(3 + 5 * i, 60 - 7 * i);
        }
    }

    /** Kind 0 lies just at the edge of what Twins bakes of it: a tick longer, or a warmth more, and it shows. */
    private static void kinds(VillageOven x) {
        x.kind(1, false, 2, 34, 63, 600, 1);
        x.kind(2, true, 3, 9, 40, 300, 0);
        x.kind(3, true, 1, 20, 0, 2000, 9);
        x.kind(1, false, 1, 60, 0, 500, 3);
        x.second(0, 30, 20, 900);
    }

    private static void households(VillageOven x) {
        x.households(5);
        x.custom(1, 99);
        x.slots(2);
        x.told(0, 3, 2, true);
        x.told(3, 1, 2, false);
        x.told(60, 4, 2, true);
    }

    private static void notes(VillageOven x) {
        for (int week = 7; week < 12; week++) {
            x.note(week, 2, week < 10 ? 3 : 1);
        }
        x.note(0, 0, 1);
        x.note(60, 3, 2);
        x.note(59, 3, 2);
        x.bricks(2, 10);
        x.bricks(3, 0);
    }
}
