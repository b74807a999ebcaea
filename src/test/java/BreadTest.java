/** Promises 10 to 16: kinds and loaves. The oven of most tests stands still at warmth 10. */
public final class BreadTest {
    public static void main(String[] args) {
        kindBounds();
        kindsAreFull();
        secondBounds();
        secondRefused();
        secondHeatBegins();
        putRefused();
        putTwelve();
        putTwoHundred();
        crownsHoldOne();
        moveRefused();
        moveWithHoles();
        takeRefused();
        results();
        doorOpensOnce();
        lookAfterTaking();
        heatRunsOut();
        loafBounds();
        roomLeft();
        Check.finish();
    }

    /** A new oven whose lining neither warms nor cools but by what breads take. */
    private static VillageOven still() {
        VillageOven x = new VillageOven();
        x.air(40);
        return x;
    }

    private static void kindBounds() {
        VillageOven x = new VillageOven();
        Check.due("places 0", x.kind(0, false, 1, 1, 0, 0, 0), -2);
        Check.due("places 4", x.kind(4, false, 1, 1, 0, 0, 0), -2);
        Check.due("a crown of 1", x.kind(1, true, 1, 1, 0, 0, 0), -2);
        Check.due("least 0", x.kind(1, false, 0, 1, 0, 0, 0), -2);
        Check.due("least 31", x.kind(1, false, 31, 60, 0, 0, 0), -2);
        Check.due("most below least", x.kind(1, false, 5, 4, 0, 0, 0), -2);
        Check.due("most 61", x.kind(1, false, 1, 61, 0, 0, 0), -2);
        Check.due("from -1", x.kind(1, false, 1, 1, -1, 0, 0), -2);
        Check.due("from 2001", x.kind(1, false, 1, 1, 2001, 2001, 0), -2);
        Check.due("to below from", x.kind(1, false, 1, 1, 9, 8, 0), -2);
        Check.due("to 2001", x.kind(1, false, 1, 1, 0, 2001, 0), -2);
        Check.due("scorched -1", x.kind(1, false, 1, 1, 0, 0, -1), -2);
        Check.due("scorched 10", x.kind(1, false, 1, 1, 0, 0, 10), -2);
        Check.due("none came", x.count(2), 0);
        Check.due("at the low edges", x.kind(1, false, 1, 1, 0, 0, 0), 0);
        Check.due("at the high edges", x.kind(3, true, 30, 60, 2000, 2000, 9), 1);
        Check.due("a crown of 2", x.kind(2, true, 30, 30, 0, 2000, 0), 2);
        Check.due("three came", x.count(2), 3);
    }

    private static void kindsAreFull() {
        VillageOven x = new VillageOven();
        for (int i = 0; i < 8; i++) {
            Check.due("kind " + i, x.kind(1, false, 1, 1, 0, 0, 0), i);
        }
        Check.due("a kind too many", x.kind(1, false, 1, 1, 0, 0, 0), -4);
        Check.due("BAD ahead of FULL", x.kind(1, true, 1, 1, 0, 0, 0), -2);
        Check.due("eight", x.count(2), 8);
    }

    private static void secondBounds() {
        VillageOven x = new VillageOven();
        Check.due("no such kind", x.second(0, 1, 0, 0), -2);
        x.kind(1, false, 1, 1, 0, 0, 0);
        Check.due("kind -1", x.second(-1, 1, 0, 0), -2);
        Check.due("kind 1", x.second(1, 1, 0, 0), -2);
        Check.due("n 0", x.second(0, 0, 0, 0), -2);
        Check.due("n 31", x.second(0, 31, 0, 0), -2);
        Check.due("from -1", x.second(0, 1, -1, 0), -2);
        Check.due("to below from", x.second(0, 1, 2, 1), -2);
        Check.due("to 2001", x.second(0, 1, 0, 2001), -2);
        Check.due("at the edges", x.second(0, 30, 2000, 2000), 1);
        Check.due("again", x.second(0, 30, 2000, 2000), -3);
        Check.due("BAD ahead of NOT", x.second(0, 31, 0, 0), -2);
    }

    private static void secondRefused() {
        VillageOven x = still();
        x.kind(1, false, 1, 1, 0, 2000, 0);
        x.kind(1, false, 1, 1, 0, 2000, 0);
        x.put(0, 0);
        Check.due("a loaf of it is inside", x.second(0, 1, 0, 0), -3);
        Check.due("none of the other", x.second(1, 1, 0, 0), 1);
        x.take(0);
        Check.due("it is out", x.second(0, 1, 0, 0), 1);
    }

    private static void secondHeatBegins() {
        VillageOven x = still();
        x.kind(1, false, 1, 60, 0, 2000, 9);
        x.second(0, 2, 500, 600);
        x.put(0, 0);
        x.ticks(2);
        Check.due("right in the first two", x.loaf(0, 3), 2);
        x.ticks(1);
        Check.due("the third goes by the second heat", x.loaf(0, 5), 1);
        Check.due("right stays", x.loaf(0, 3), 2);
        Check.due("second of a kind that had loaves in", x.second(0, 2, 1, 1), -3);
    }

    private static void putRefused() {
        VillageOven x = new VillageOven();
        Check.due("no such kind", x.put(0, 0), -2);
        x.kind(3, false, 1, 1, 0, 0, 0);
        Check.due("kind -1", x.put(-1, 1), -2);
        Check.due("kind 1", x.put(1, 1), -2);
        Check.due("ring -1", x.put(0, -1), -2);
        Check.due("ring 4", x.put(0, 4), -2);
        Check.due("3 places in a room of 2", x.put(0, 0), -3);
        Check.due("3 places in a room of 3", x.put(0, 1), 0);
        Check.due("and no more", x.put(0, 1), -3);
        Check.due("one inside", x.count(1), 1);
    }

    private static void putTwelve() {
        VillageOven x = new VillageOven();
        x.kind(1, false, 1, 1, 0, 0, 0);
        int made = 0;
        for (int ring = 3; ring >= 0; ring--) {
            int room = new int[] {1, 3, 4, 4}[ring];
            for (int i = 0; i < room; i++) {
                Check.due("put", x.put(0, ring), made++);
            }
        }
        Check.due("twelve inside", x.count(1), 12);
        Check.due("room for one more, but twelve", x.put(0, 0), -4);
        Check.due("no room: NOT ahead of FULL", x.put(0, 3), -3);
        x.take(0);
        Check.due("a place came free", x.put(0, 0), 12);
        Check.due("put the last", x.put(0, 3), -4);
    }

    private static void putTwoHundred() {
        VillageOven x = new VillageOven();
        x.kind(1, false, 1, 1, 0, 0, 0);
        for (int i = 0; i < 200; i++) {
            Check.due("put " + i, x.put(0, i % 4), i);
            Check.due("take " + i, x.take(i), 0);
        }
        Check.due("none inside, 200 in all", x.put(0, 0), -4);
        Check.due("the last one is out", x.loaf(199, 1), -1);
        Check.due("no loaf 200", x.loaf(200, 1), -2);
    }

    private static void crownsHoldOne() {
        VillageOven x = new VillageOven();
        x.kind(1, false, 1, 1, 0, 0, 0);
        x.kind(2, true, 1, 1, 0, 0, 0);
        x.kind(2, false, 1, 1, 0, 0, 0);
        Check.due("a crown", x.put(1, 0), 0);
        Check.due("one in its hole", x.put(0, 0), 1);
        Check.due("no second one", x.put(0, 0), -3);
        Check.due("no hole in a plain one", x.put(2, 1), 2);
        Check.due("beside it", x.put(0, 1), 3);
        Check.due("full", x.put(0, 1), -3);
        Check.due("three ones", x.put(0, 2), 4);
        x.put(0, 2);
        x.put(0, 2);
        Check.due("a plain one does not fit", x.put(2, 2), -3);
        Check.due("a crown does: one stands in it", x.put(1, 2), 7);
        Check.due("room is used up", x.room(2), 0);
    }

    private static void moveRefused() {
        VillageOven x = still();
        x.kind(1, false, 1, 1, 0, 0, 0);
        x.kind(3, false, 1, 1, 0, 0, 0);
        Check.due("no such loaf", x.move(0, 0), -2);
        x.put(0, 0);
        x.put(1, 1);
        Check.due("loaf -1", x.move(-1, 1), -2);
        Check.due("loaf 2", x.move(2, 1), -2);
        Check.due("ring -1", x.move(0, -1), -2);
        Check.due("ring 4", x.move(0, 4), -2);
        Check.due("to its own", x.move(0, 0), -2);
        Check.due("no room there", x.move(0, 1), -3);
        Check.due("moved", x.move(0, 3), 0);
        Check.due("its ring", x.loaf(0, 1), 3);
        Check.due("and back", x.move(0, 0), 3);
        x.take(0);
        Check.due("out", x.move(0, 0), -3);
        Check.due("out, BAD ahead", x.move(0, 4), -2);
    }

    private static void moveWithHoles() {
        VillageOven x = still();
        x.kind(1, false, 1, 1, 0, 0, 0);
        x.kind(2, true, 1, 1, 0, 0, 0);
        x.put(1, 0);
        x.put(0, 0);
        Check.due("the crown leaves, the one stays", x.move(0, 1), 0);
        Check.due("room of 0", x.room(0), 1);
        Check.due("room of 1", x.room(1), 1);
        Check.due("into the hole again", x.move(1, 1), 0);
        Check.due("room of 1 is as it was", x.room(1), 1);
        Check.due("the crown is taken from around it", x.take(0), 0);
        Check.due("now the one takes room", x.room(1), 2);
    }

    private static void takeRefused() {
        VillageOven x = still();
        Check.due("no such loaf", x.take(0), -2);
        x.kind(1, false, 1, 1, 0, 2000, 0);
        x.put(0, 0);
        Check.due("take(-1)", x.take(-1), -2);
        Check.due("take(1)", x.take(1), -2);
        x.ticks(1);
        Check.due("good", x.take(0), 1);
        Check.due("out already", x.take(0), -3);
        Check.due("good ones", x.count(6), 1);
        Check.due("none inside", x.count(1), 0);
    }

    private static int bake(int least, int most, int from, int to, int scorched, int ticks) {
        VillageOven x = still();
        x.kind(1, false, least, most, from, to, scorched);
        x.put(0, 0);
        if (ticks > 0) {
            x.ticks(ticks);
        }
        int result = x.take(0);
        Check.due("good ones are counted", x.count(6), result == 1 ? 1 : 0);
        return result;
    }

    private static void results() {
        Check.due("raw at once", bake(1, 1, 0, 2000, 0, 0), 0);
        Check.due("raw, one too few", bake(3, 5, 0, 2000, 0, 2), 0);
        Check.due("good, just enough", bake(3, 5, 0, 2000, 0, 3), 1);
        Check.due("good, not too old", bake(3, 5, 0, 2000, 0, 5), 1);
        Check.due("dry", bake(3, 5, 0, 2000, 0, 6), 3);
        Check.due("raw ahead of dry", bake(3, 5, 100, 2000, 0, 9), 0);
        Check.due("scorched as often as it may, raw", bake(1, 5, 0, 0, 3, 3), 0);
        Check.due("scorched more often", bake(1, 5, 0, 0, 3, 4), 2);
        Check.due("burnt ahead of raw and dry", bake(30, 30, 0, 1, 0, 40), 2);
    }

    private static void doorOpensOnce() {
        VillageOven x = new VillageOven();
        x.air(0);
        x.kind(1, false, 1, 60, 0, 2000, 0);
        x.put(0, 0);
        x.ticks(1);
        Check.due("skins 40, door 10, 20, 40", x.sum(2), 110);
        Check.due("given", x.sum(3), 15);
        long before = x.sum(2);
        x.ticks(1);
        Check.due("shut: skins alone, 9 each", x.sum(2) - before, 36);
        x.move(0, 2);
        x.move(0, 5);
        long far = x.sum(2);
        x.ticks(1);
        Check.holds("open when moved", x.sum(2) - far > 36);
        far = x.sum(2);
        x.move(0, 2);
        x.take(7);
        x.put(3, 3);
        x.ticks(1);
        Check.holds("refused calls open nothing", x.sum(2) - far <= 36);
        x.take(0);
        far = x.sum(2);
        x.ticks(1);
        Check.holds("open when taken out", x.sum(2) - far > 36);
    }

    private static void lookAfterTaking() {
        VillageOven x = still();
        x.kind(1, false, 1, 60, 9, 9, 0);
        x.kind(1, false, 1, 60, 7, 7, 0);
        x.put(0, 3);
        x.ticks(1);
        Check.due("100 less 15 is 8 warm: pale", x.loaf(0, 5), 1);
        VillageOven y = still();
        y.kind(1, false, 1, 60, 7, 7, 0);
        y.put(0, 3);
        y.put(0, 3);
        y.ticks(1);
        Check.due("100 less 30 is 7 warm, for the first", y.loaf(0, 3), 1);
        Check.due("and for the second", y.loaf(1, 3), 1);
    }

    private static void heatRunsOut() {
        VillageOven x = new VillageOven();
        x.air(0);
        x.kind(1, false, 1, 60, 0, 2000, 0);
        for (int i = 0; i < 12; i++) {
            x.put(0, i < 1 ? 0 : i < 4 ? 1 : i < 8 ? 2 : 3);
        }
        for (int i = 0; i < 8; i++) {
            x.ticks(60);
            for (int ring = 0; ring < 4; ring++) {
                Check.holds("no lining below 0", x.heat(ring, 0, 0) >= 0);
            }
            Check.due("balance", x.sum(1) + x.sum(2) + x.sum(3), x.sum(0) + x.sum(4));
        }
        Check.holds("less was given than asked", x.sum(3) < 12 * 15 * 480);
        Check.due("they grow old all the same", x.loaf(11, 2), 480);
    }

    private static void loafBounds() {
        VillageOven x = still();
        Check.due("no loaf", x.loaf(0, 0), -2);
        x.kind(1, false, 1, 1, 0, 0, 0);
        x.kind(1, false, 1, 60, 8, 8, 9);
        x.put(1, 3);
        Check.due("loaf -1", x.loaf(-1, 0), -2);
        Check.due("loaf 1", x.loaf(1, 0), -2);
        Check.due("what -1", x.loaf(0, -1), -2);
        Check.due("what 6", x.loaf(0, 6), -2);
        x.ticks(3);
        Check.due("kind", x.loaf(0, 0), 1);
        Check.due("ring", x.loaf(0, 1), 3);
        Check.due("age", x.loaf(0, 2), 3);
        Check.due("all ticks are told", x.loaf(0, 3) + x.loaf(0, 4) + x.loaf(0, 5), 3);
        x.take(0);
        Check.due("out", x.loaf(0, 1), -1);
        Check.due("kind stays", x.loaf(0, 0), 1);
        x.ticks(3);
        Check.due("it grows no older outside", x.loaf(0, 2), 3);
    }

    private static void roomLeft() {
        VillageOven x = new VillageOven();
        Check.due("ring -1", x.room(-1), -2);
        Check.due("ring 4", x.room(4), -2);
        x.kind(1, false, 1, 1, 0, 0, 0);
        x.kind(3, true, 1, 1, 0, 0, 0);
        x.put(0, 3);
        Check.due("a one", x.room(3), 3);
        x.put(1, 3);
        Check.due("a crown around it", x.room(3), 1);
        x.put(0, 3);
        Check.due("another one", x.room(3), 0);
        Check.due("other rings", x.room(2), 4);
    }
}
