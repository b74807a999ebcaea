/** Promises 30 to 35: notes, new bricks, explanations, and what is counted. */
public final class NotesTest {
    public static void main(String[] args) {
        noteBounds();
        loseBounds();
        bricksBounds();
        bestBounds();
        bestIsFirst();
        hotSpots();
        bricksMend();
        bricksInTheWeekItself();
        explainsBounds();
        countBounds();
        Check.finish();
    }

    private static void best(String where, VillageOven x, int sort, int ring, int week, int explained) {
        Check.due(where + ": sort", x.best(0), sort);
        Check.due(where + ": ring", x.best(1), ring);
        Check.due(where + ": week", x.best(2), week);
        Check.due(where + ": explained", x.best(3), explained);
    }

    private static void noteBounds() {
        VillageOven x = new VillageOven();
        Check.due("week -1", x.note(-1, 0, 1), -2);
        Check.due("week 61", x.note(61, 0, 1), -2);
        Check.due("ring -1", x.note(0, -1, 1), -2);
        Check.due("ring 4", x.note(0, 4, 1), -2);
        Check.due("v -1", x.note(0, 0, -1), -2);
        Check.due("v 4", x.note(0, 0, 4), -2);
        Check.due("none came", x.count(7), 0);
        Check.due("note(60, 3, 3)", x.note(60, 3, 3), 0);
        Check.due("note(60, 3, 1)", x.note(60, 3, 1), 3);
        Check.due("note(0, 0, 2)", x.note(0, 0, 2), 0);
        Check.due("two", x.count(7), 2);
        Check.due("not known again", x.note(60, 3, 0), 1);
        Check.due("one", x.count(7), 1);
    }

    private static void loseBounds() {
        VillageOven x = new VillageOven();
        Check.due("lose(-1)", x.lose(-1), -2);
        Check.due("lose(61)", x.lose(61), -2);
        for (int ring = 0; ring < 4; ring++) {
            x.note(9, ring, ring);
            x.note(10, ring, 1);
        }
        x.note(60, 3, 2);
        Check.due("three were known", x.lose(9), 3);
        Check.due("none now", x.lose(9), 0);
        Check.due("each note is gone", x.note(9, 3, 0), 0);
        Check.due("other weeks stay", x.count(7), 5);
        Check.due("the last week", x.lose(60), 1);
    }

    private static void bricksBounds() {
        VillageOven x = new VillageOven();
        Check.due("ring -1", x.bricks(-1, 0), -2);
        Check.due("ring 4", x.bricks(4, 0), -2);
        Check.due("week -1", x.bricks(0, -1), -2);
        Check.due("week 61", x.bricks(0, 61), -2);
        for (int i = 1; i <= 10; i++) {
            Check.due("bricks " + i, x.bricks(i % 4, 6 * i), i);
        }
        Check.due("too many", x.bricks(0, 0), -4);
        Check.due("BAD ahead of FULL", x.bricks(0, 61), -2);
    }

    private static void bestBounds() {
        VillageOven x = new VillageOven();
        Check.due("best(-1)", x.best(-1), -2);
        Check.due("best(4)", x.best(4), -2);
        best("no notes", x, 0, -1, -1, 0);
        x.note(3, 1, 1);
        best("well", x, 0, -1, -1, 1);
        x.note(3, 2, 3);
        best("a pale one", x, 1, 2, 0, 2);
    }

    private static void bestIsFirst() {
        VillageOven x = new VillageOven();
        x.note(5, 1, 3);
        x.note(5, 0, 2);
        best("crack ahead of hot spot", x, 1, 1, 0, 1);
        x.note(7, 3, 2);
        x.note(8, 3, 2);
        best("more is better", x, 2, 3, 0, 2);
        x.note(4, 3, 1);
        best("from behind the well one", x, 2, 3, 5, 3);
        VillageOven y = new VillageOven();
        y.note(5, 1, 3);
        y.note(5, 1, 3);
        y.note(4, 1, 1);
        y.note(5, 3, 3);
        y.note(4, 3, 1);
        best("the lower ring", y, 1, 1, 5, 3);
        VillageOven z = new VillageOven();
        z.note(2, 0, 3);
        z.note(3, 0, 1);
        best("no better than nothing", z, 0, -1, -1, 1);
    }

    private static void hotSpots() {
        VillageOven x = new VillageOven();
        for (int week = 0; week < 10; week++) {
            x.note(week, 2, week < 4 ? 1 : 2);
            x.note(week, 1, 1);
        }
        best("hot from week 4", x, 2, 2, 4, 20);
        Check.due("a crack explains less", x.explains(1, 2, 4), 14);
        Check.due("nothing wrong", x.explains(0, 0, 0), 14);
        Check.due("all of ring 1 wrong", x.explains(2, 1, 0), 4);
        x.lose(4);
        best("a lost week explains nothing", x, 2, 2, 4, 18);
    }

    private static void bricksMend() {
        VillageOven x = new VillageOven();
        for (int week = 10; week < 20; week++) {
            x.note(week, 0, week < 15 ? 3 : 1);
        }
        best("pale, then well", x, 0, -1, -1, 5);
        x.bricks(0, 15);
        best("mended in 15", x, 1, 0, 0, 10);
        Check.due("from 14", x.explains(1, 0, 14), 6);
        Check.due("from 15: behind its bricks, on to the end", x.explains(1, 0, 15), 0);
        x.bricks(0, 12);
        Check.due("from 10 to 11", x.explains(1, 0, 10), 7);
        Check.due("from 12 to 14", x.explains(1, 0, 12), 8);
        best("the first of the spans", x, 1, 0, 12, 8);
        x.bricks(1, 13);
        Check.due("bricks of another ring", x.explains(1, 0, 12), 8);
    }

    private static void bricksInTheWeekItself() {
        VillageOven x = new VillageOven();
        x.note(60, 3, 2);
        x.bricks(3, 60);
        Check.due("mended in 60", x.explains(2, 3, 59), 0);
        Check.due("but not if it begins there", x.explains(2, 3, 60), 1);
        best("the last of all", x, 2, 3, 60, 1);
    }

    private static void explainsBounds() {
        VillageOven x = new VillageOven();
        Check.due("sort -1", x.explains(-1, 0, 0), -2);
        Check.due("sort 3", x.explains(3, 0, 0), -2);
        Check.due("ring -1", x.explains(1, -1, 0), -2);
        Check.due("ring 4", x.explains(1, 4, 0), -2);
        Check.due("week -1", x.explains(2, 0, -1), -2);
        Check.due("week 61", x.explains(2, 0, 61), -2);
        Check.due("sort 0, ring 1", x.explains(0, 1, 0), -2);
        Check.due("sort 0, week 1", x.explains(0, 0, 1), -2);
        Check.due("sort 0", x.explains(0, 0, 0), 0);
        Check.due("at the edge", x.explains(2, 3, 60), 0);
    }

    private static void countBounds() {
        VillageOven x = new VillageOven();
        Check.due("count(-1)", x.count(-1), -2);
        Check.due("count(9)", x.count(9), -2);
        x.kind(1, false, 1, 60, 0, 2000, 0);
        x.log(1, 1);
        x.log(1, 1);
        x.put(0, 0);
        x.put(0, 1);
        x.put(0, 2);
        x.ticks(1);
        x.take(0);
        x.order(0);
        x.opening(3);
        x.opening(4);
        x.note(1, 1, 1);
        x.told(1, 1, 0, true);
        int[] want = {1, 2, 1, 1, 2, 1, 1, 1, 1};
        for (int what = 0; what < 9; what++) {
            Check.due("count(" + what + ")", x.count(what), want[what]);
        }
    }
}
