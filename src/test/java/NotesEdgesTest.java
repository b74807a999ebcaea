/** The edges that the document names in promises 30 to 35: a sentence, a test. */
public final class NotesEdgesTest {
    private static final int NONE = -1, BAD = -2, FULL = -4;
    private static final int WELL = 1, BURNT = 2, PALE = 3;

    public static void main(String[] args) {
        noteBounds();
        noteTellsWhatItWas();
        loseBounds();
        loseTellsHowMany();
        bricksBounds();
        bricksFull();
        bestBounds();
        bestOfNothing();
        bestOfAllNotes();
        bestIsTheFirstSort();
        bestIsTheFirstRing();
        bestIsTheFirstWeek();
        explainsBounds();
        explainsNothingWrong();
        explainsFromItsWeekOn();
        explainsFirstAndLastWeek();
        explainsUpToNewBricks();
        explainsNotUpToBricksOfItsOwnWeek();
        explainsUpToTheFirstOfSeveralBricks();
        explainsOtherRingsWell();
        explainsUnknownNever();
        countBounds();
        countEachThing();
        Check.finish();
    }

    private static void best(String where, VillageOven x, int sort, int ring, int week, int explained) {
        Check.due(where + ": sort", x.best(0), sort);
        Check.due(where + ": ring", x.best(1), ring);
        Check.due(where + ": week", x.best(2), week);
        Check.due(where + ": explained", x.best(3), explained);
    }

    /** "A NOTE (0 .. 3) of a RING in a WEEK": "WEEKS are 0 .. 60". */
    private static void noteBounds() {
        Stories.Story[] stories = {Stories::untouched, Stories::busy};
        for (Stories.Story story : stories) {
            Twins.bounds("note, week", story, 0, 60, (x, v) -> x.note(v, 3, 2));
            Twins.bounds("note, ring", story, 0, 3, (x, v) -> x.note(60, v, 1));
            Twins.bounds("note, v", story, 0, 3, (x, v) -> x.note(10, 2, v));
        }
        Twins.unmovedEverywhere("note: all are out of bounds", x -> x.note(61, 4, 4), BAD);
        Twins.unmovedEverywhere("no such ring in a week that is", x -> x.note(30, -1, 1), BAD);
    }

    /** "which it was": "0 not known (at first)". */
    private static void noteTellsWhatItWas() {
        int[][] corners = {{0, 0}, {0, 3}, {60, 0}, {60, 3}};
        for (int[] c : corners) {
            VillageOven x = new VillageOven();
            Check.due("not known at first", x.note(c[0], c[1], PALE), 0);
            Check.due("pale it was", x.note(c[0], c[1], BURNT), PALE);
            Check.due("burnt it was", x.note(c[0], c[1], WELL), BURNT);
            Check.due("one note, told three times", x.count(7), 1);
            Check.due("well it was", x.note(c[0], c[1], 0), WELL);
            Check.due("not known again", x.note(c[0], c[1], 0), 0);
            Check.due("no note", x.count(7), 0);
        }
    }

    /** "A WEEK is lost .. BAD." */
    private static void loseBounds() {
        Twins.bounds("lose", Stories::untouched, 0, 60, VillageOven::lose);
        Twins.bounds("lose, busy", Stories::busy, 0, 60, VillageOven::lose);
        Twins.bounds("lose, open", Stories::opened, 0, 60, VillageOven::lose);
    }

    /** "how many NOTES it had": none, some, all; "all not known". */
    private static void loseTellsHowMany() {
        int[] weeks = {0, 30, 60};
        for (int week : weeks) {
            for (int many = 0; many <= 4; many++) {
                VillageOven x = new VillageOven();
                for (int w = Math.max(0, week - 1); w <= Math.min(60, week + 1); w++) {
                    for (int ring = 0; ring < (w == week ? many : 4); ring++) {
                        x.note(w, ring, 1 + ring % 3);
                    }
                }
                int before = x.count(7);
                Check.due("so many in week " + week, x.lose(week), many);
                Check.due("the others stay", x.count(7), before - many);
                Check.due("none now", x.lose(week), 0);
                for (int ring = 0; ring < 4; ring++) {
                    Check.due("not known", x.note(week, ring, 0), 0);
                }
            }
        }
    }

    /** "NEW BRICKS of a RING in a WEEK .. BAD". */
    private static void bricksBounds() {
        Stories.Story[] stories = {Stories::untouched, Stories::busy};
        for (Stories.Story story : stories) {
            Twins.bounds("bricks, ring", story, 0, 3, (x, v) -> x.bricks(v, 9));
            Twins.bounds("bricks, week", story, 0, 60, (x, v) -> x.bricks(2, v));
        }
        Twins.unmovedEverywhere("bricks: both are out of bounds", x -> x.bricks(4, 61), BAD);
    }

    private static void fillTheBricks(VillageOven x) {
        for (int week = 0; week <= 60; week += 3) {
            x.note(week, 0, PALE);
            x.note(week, 3, BURNT);
        }
        for (int i = Stories.BUSY_BRICKS; i < 10; i++) {
            x.bricks(i % 4, 6 * i);
        }
    }

    /** "(10 at most)"; "how many such there are in all". */
    private static void bricksFull() {
        VillageOven x = new VillageOven();
        for (int i = 1; i <= 10; i++) {
            Check.due("bricks, of the same ring and week", x.bricks(3, 60), i);
        }
        Check.due("too many", x.bricks(3, 60), FULL);
        Twins.unmovedBehind("once too often", NotesEdgesTest::fillTheBricks, y -> y.bricks(0, 1), FULL);
        Twins.unmovedBehind("the same once more", NotesEdgesTest::fillTheBricks, y -> y.bricks(1, 6), FULL);
        Twins.unmovedBehind("BAD ahead of FULL, ring", NotesEdgesTest::fillTheBricks, y -> y.bricks(4, 1), BAD);
        Twins.unmovedBehind("BAD ahead of FULL, week", NotesEdgesTest::fillTheBricks, y -> y.bricks(0, 61), BAD);
    }

    /** "BEST: 0 which sort .., 1 RING, 2 the WEEK f .., 3 how many NOTES it EXPLAINS. BAD." */
    private static void bestBounds() {
        Twins.bounds("best", Stories::untouched, 0, 3, VillageOven::best);
        Twins.bounds("best, busy", Stories::busy, 0, 3, VillageOven::best);
        Twins.bounds("best, open", Stories::opened, 0, 3, VillageOven::best);
        Twins.unmoved("best only looks", Stories::busy, x -> x.best(3), 6);
    }

    /** "(both NONE for sort 0)": with no notes, with well ones, with nothing better. */
    private static void bestOfNothing() {
        VillageOven x = new VillageOven();
        best("no notes", x, 0, NONE, NONE, 0);
        x.bricks(0, 5);
        best("bricks are no notes", x, 0, NONE, NONE, 0);
        x.note(60, 3, WELL);
        best("one that is well", x, 0, NONE, NONE, 1);
        x.note(59, 3, PALE);
        best("a crack would have lasted to the end", x, 0, NONE, NONE, 1);
        x.bricks(3, 60);
        best("new bricks, so it was one", x, 1, 3, 0, 2);
    }

    private static void allNotes(VillageOven x, int v) {
        for (int i = 0; i < 61 * 4; i++) {
            x.note(i / 4, i % 4, v);
        }
    }

    /** 244 notes are all there can be. */
    private static void bestOfAllNotes() {
        VillageOven well = new VillageOven();
        allNotes(well, WELL);
        Check.due("all are known", well.count(7), 244);
        best("all well", well, 0, NONE, NONE, 244);
        Check.due("a crack in the last week", well.explains(1, 3, 60), 243);
        Check.due("a hot spot in all", well.explains(2, 0, 0), 183);
        VillageOven pale = new VillageOven();
        allNotes(pale, PALE);
        best("all pale", pale, 1, 0, 0, 61);
        Check.due("nothing wrong", pale.explains(0, 0, 0), 0);
        VillageOven burnt = new VillageOven();
        allNotes(burnt, BURNT);
        best("all burnt", burnt, 2, 0, 0, 61);
        Check.due("a crack", burnt.explains(1, 0, 0), 0);
    }

    /** "EXPLANATIONS, in order: 0 nothing is wrong; CRACK ..; HOT SPOT likewise"; "of several the first". */
    private static void bestIsTheFirstSort() {
        VillageOven x = new VillageOven();
        x.note(0, 3, PALE);
        x.note(0, 0, BURNT);
        best("a crack in ring 3 ahead of a hot spot in ring 0", x, 1, 3, 0, 1);
        x.note(0, 3, 0);
        best("the hot spot alone", x, 2, 0, 0, 1);
        x.note(1, 0, WELL);
        best("nothing wrong is as good", x, 0, NONE, NONE, 1);
        x.note(0, 1, BURNT);
        best("another hot spot is better", x, 2, 1, 0, 2);
    }

    /** "by r, then f": the ring goes first. */
    private static void bestIsTheFirstRing() {
        VillageOven x = new VillageOven();
        x.note(3, 2, PALE);
        x.note(2, 2, WELL);
        x.note(60, 1, PALE);
        x.note(59, 1, WELL);
        best("ring 1 from 60 ahead of ring 2 from 3", x, 1, 1, 60, 3);
        x.note(4, 2, PALE);
        best("more is better", x, 1, 2, 3, 4);
    }

    private static void bestIsTheFirstWeek() {
        VillageOven x = new VillageOven();
        x.note(60, 0, PALE);
        best("any week will do: the first", x, 1, 0, 0, 1);
        x.note(40, 0, WELL);
        best("behind the well one", x, 1, 0, 41, 2);
        x.note(59, 0, WELL);
        best("the last week of all", x, 1, 0, 60, 3);
        VillageOven y = new VillageOven();
        y.note(60, 3, BURNT);
        y.note(59, 3, WELL);
        best("the last explanation of all", y, 2, 3, 60, 2);
    }

    /** "(sort 0: ring, week 0). BAD." */
    private static void explainsBounds() {
        Twins.bounds("explains, sort", Stories::busy, 0, 2, (x, v) -> x.explains(v, 0, 0));
        for (int sort = 1; sort <= 2; sort++) {
            int s = sort;
            Twins.bounds("explains, ring", Stories::busy, 0, 3, (x, v) -> x.explains(s, v, 60));
            Twins.bounds("explains, week", Stories::busy, 0, 60, (x, v) -> x.explains(s, 3, v));
        }
        Twins.bounds("explains of sort 0, ring", Stories::busy, 0, 0, (x, v) -> x.explains(0, v, 0));
        Twins.bounds("explains of sort 0, week", Stories::busy, 0, 0, (x, v) -> x.explains(0, 0, v));
        Twins.unmovedEverywhere("explains of sort 0, both", x -> x.explains(0, 3, 60), BAD);
        Twins.unmovedEverywhere("explains: all are out of bounds", x -> x.explains(3, 4, 61), BAD);
        Twins.unmoved("explains only looks", Stories::busy, x -> x.explains(1, 2, 7), 6);
    }

    /** "0 nothing is wrong": all well. */
    private static void explainsNothingWrong() {
        VillageOven x = new VillageOven();
        Check.due("no notes", x.explains(0, 0, 0), 0);
        x.note(0, 0, WELL);
        x.note(60, 3, WELL);
        x.note(1, 1, BURNT);
        x.note(2, 2, PALE);
        x.bricks(0, 0);
        Check.due("the well ones", x.explains(0, 0, 0), 2);
    }

    /** "in r from f on .. pale (CRACK) or burnt (HOT SPOT); all else well". */
    private static void explainsFromItsWeekOn() {
        VillageOven x = new VillageOven();
        x.note(9, 1, WELL);
        x.note(10, 1, PALE);
        x.note(11, 1, BURNT);
        x.note(12, 1, PALE);
        int[] cracks = {2, 2, 3, 2, 2, 1};
        int[] spots = {1, 1, 2, 2, 1, 1};
        for (int f = 8; f <= 13; f++) {
            Check.due("a crack from " + f, x.explains(1, 1, f), cracks[f - 8]);
            Check.due("a hot spot from " + f, x.explains(2, 1, f), spots[f - 8]);
        }
    }

    private static void explainsFirstAndLastWeek() {
        VillageOven x = new VillageOven();
        x.note(0, 3, PALE);
        x.note(60, 3, PALE);
        Check.due("from the first week", x.explains(1, 3, 0), 2);
        Check.due("from the second", x.explains(1, 3, 1), 1);
        Check.due("from the last", x.explains(1, 3, 60), 1);
        x.note(60, 3, WELL);
        Check.due("well in the last, from the last but one", x.explains(1, 3, 59), 0);
        Check.due("nothing wrong", x.explains(0, 0, 0), 1);
    }

    /** "but up to the first NEW BRICKS of r in a WEEK behind f (that WEEK not)". */
    private static void explainsUpToNewBricks() {
        VillageOven x = new VillageOven();
        for (int week = 20; week < 24; week++) {
            x.note(week, 2, PALE);
        }
        Check.due("without bricks", x.explains(1, 2, 20), 4);
        x.bricks(2, 22);
        Check.due("weeks 20 and 21 alone", x.explains(1, 2, 20), 2);
        Check.due("week 21 alone", x.explains(1, 2, 21), 1);
        x.note(22, 2, WELL);
        Check.due("well in the week of the bricks", x.explains(1, 2, 20), 3);
        x.bricks(1, 21);
        Check.due("bricks of another ring", x.explains(1, 2, 20), 3);
        VillageOven y = new VillageOven();
        y.note(0, 0, BURNT);
        y.note(1, 0, WELL);
        y.bricks(0, 1);
        Check.due("one week long", y.explains(2, 0, 0), 2);
        best("one week long", y, 2, 0, 0, 2);
    }

    /** "in a WEEK behind f": not in f itself. */
    private static void explainsNotUpToBricksOfItsOwnWeek() {
        VillageOven x = new VillageOven();
        for (int week = 58; week <= 60; week++) {
            x.note(week, 1, BURNT);
        }
        x.bricks(1, 58);
        Check.due("from the week of the bricks", x.explains(2, 1, 58), 3);
        Check.due("up to it", x.explains(2, 1, 57), 0);
        x.bricks(1, 60);
        Check.due("up to the last week", x.explains(2, 1, 58), 2);
        Check.due("from the last week", x.explains(2, 1, 60), 1);
        x.bricks(1, 0);
        Check.due("bricks of week 0 end nothing", x.explains(2, 1, 0), 0);
        Check.due("bricks of week 0 end nothing", x.explains(2, 1, 59), 1);
    }

    /** "the first NEW BRICKS": by weeks, not by when they were told. */
    private static void explainsUpToTheFirstOfSeveralBricks() {
        VillageOven x = new VillageOven();
        for (int week = 0; week < 10; week++) {
            x.note(week, 0, PALE);
        }
        x.bricks(0, 8);
        x.bricks(0, 3);
        x.bricks(0, 5);
        int[] want = {3, 2, 1, 2, 1, 3, 2, 1, 2, 1};
        for (int week = 0; week < 10; week++) {
            Check.due("from week " + week, x.explains(1, 0, week), want[week]);
        }
        best("the first of the longest", x, 1, 0, 0, 3);
    }

    private static void explainsOtherRingsWell() {
        VillageOven x = new VillageOven();
        for (int ring = 0; ring < 4; ring++) {
            x.note(30, ring, WELL);
            x.note(31, ring, PALE);
        }
        for (int ring = 0; ring < 4; ring++) {
            Check.due("a crack in ring " + ring, x.explains(1, ring, 31), 5);
            Check.due("a hot spot in ring " + ring, x.explains(2, ring, 31), 4);
            Check.due("a week too early", x.explains(1, ring, 30), 4);
        }
    }

    /** "0 not known": explained by none. */
    private static void explainsUnknownNever() {
        VillageOven x = new VillageOven();
        x.note(5, 0, PALE);
        x.note(6, 0, WELL);
        x.note(6, 0, 0);
        x.note(7, 0, PALE);
        best("a gap is no hindrance", x, 1, 0, 0, 2);
        x.lose(7);
        x.lose(5);
        best("all is lost", x, 0, NONE, NONE, 0);
    }

    /** "0 LOGS, .. 8 what was told for WEEKS. BAD." */
    private static void countBounds() {
        Twins.bounds("count", Stories::untouched, 0, 8, VillageOven::count);
        Twins.bounds("count, busy", Stories::busy, 0, 8, VillageOven::count);
        Twins.bounds("count, open", Stories::opened, 0, 8, VillageOven::count);
        int[] want = {3, 4, 4, 3, 2, 7, 1, 8, 3};
        for (int i = 0; i < 9; i++) {
            int what = i;
            Twins.unmoved("count(" + i + ") only looks", Stories::busy, x -> x.count(what), want[i]);
        }
    }

    private static void counted(String where, VillageOven x, int... want) {
        for (int what = 0; what < 9; what++) {
            Check.due(where + ": count(" + what + ")", x.count(what), want[what]);
        }
    }

    private static void countEachThing() {
        VillageOven x = new VillageOven();
        counted("new", x, 0, 0, 0, 0, 0, 0, 0, 0, 0);
        x.log(1, 0);
        counted("a log", x, 1, 0, 0, 0, 0, 0, 0, 0, 0);
        x.kind(1, false, 1, 60, 0, 2000, 0);
        counted("a kind", x, 1, 0, 1, 0, 0, 0, 0, 0, 0);
        x.put(0, 0);
        x.put(0, 3);
        counted("two loaves", x, 1, 2, 1, 0, 0, 0, 0, 0, 0);
        x.order(0);
        x.opening(40);
        counted("an order and an opening", x, 1, 2, 1, 1, 1, 0, 0, 0, 0);
        x.ticks(3);
        counted("three ticks", x, 0, 2, 1, 1, 1, 3, 0, 0, 0);
        x.take(0);
        counted("a good one", x, 0, 1, 1, 1, 1, 3, 1, 0, 0);
        x.ticks(60);
        x.take(1);
        counted("a dry one", x, 0, 0, 1, 1, 1, 63, 1, 0, 0);
        x.note(0, 0, PALE);
        x.told(0, 0, 1, true);
        x.bricks(0, 0);
        counted("a note, and what was told", x, 0, 0, 1, 1, 1, 63, 1, 1, 1);
        x.clear();
        x.households(4);
        x.lose(0);
        counted("and all forgotten", x, 0, 0, 1, 0, 0, 63, 1, 0, 0);
    }
}
