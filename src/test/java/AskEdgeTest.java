/** ORDER, DUEL, PLANKS, HUSH, BREAK and what lies there, at their bounds. */
public final class AskEdgeTest {
    // Each TUNE thickens the ICE by 1 if it is as thick as it waits for, else all of it goes: only 5 4 3 2 1 0 leaves the SKATER UP.
    private static final String ROW = "pond 1 by 1;ice 10;tune a bars 1 (ice=15)*100-99;tune b bars 1 (ice=14)*100-99;tune c bars 1 (ice=13)*100-99;"
        + "tune d bars 1 (ice=12)*100-99;tune e bars 1 (ice=11)*100-99;tune f bars 1 (ice=10)*100-99;skater s weight 1 at 0 0;";

    private final Due due = new Due();

    public static void main(String[] args) {
        AskEdgeTest test = new AskEdgeTest();
        test.orderHasEachOnce();
        test.orderOfLikeOnes();
        test.orderOfNone();
        test.orderCountsAllIn();
        test.orderOfSix();
        test.duelOfOneToFour();
        test.duelAnyAgain();
        test.duelHoweverTheRivalChooses();
        test.duelOfLikeOnes();
        test.duelOfSixSkaters();
        test.duelOfASetWithGaps();
        test.planksNoneToTwo();
        test.planksMoreThanTold();
        test.planksByRows();
        test.planksWhileItIsPlayed();
        test.planksFromNow();
        test.hushZeroToEight();
        test.hushLeastSuchNumber();
        test.hushCountsAllIn();
        test.breaksByThickness();
        test.breaksWithin0And99();
        test.breaksAtFirstAndLastBar();
        test.breaksFromNow();
        test.liesTillAnother();
        test.due.end();
    }

    private String lying(IceTunes x) {
        return Look.lying(x);
    }

    // "ORDER of a set of TUNES (all of them, each once): by which the fewest are IN behind it"
    private void orderHasEachOnce() {
        IceTunes x = Due.told(ROW);
        due.is("order(63)", x.order(63), 0);
        due.same("its row", lying(x), "lies 6 5 4 3 2 1 0");
        due.is("order(62)", x.order(62), 0);
        due.same("its row", lying(x), "lies 5 5 4 3 2 1");
        due.is("order(32)", x.order(32), 0);
        due.same("its row", lying(x), "lies 1 5");
        due.is("order(48)", x.order(48), 0);
        due.same("its row", lying(x), "lies 2 5 4");
    }

    // "of like ones the first (TUNE by TUNE, by number)"
    private void orderOfLikeOnes() {
        IceTunes x = Due.told(ROW);
        due.is("order(31): all fail", x.order(31), 1);
        due.same("the first row", lying(x), "lies 5 0 1 2 3 4");
        due.is("order(40): all fail", x.order(40), 1);
        due.same("the first row", lying(x), "lies 2 3 5");
        x = Due.told("pond 1 by 1;ice 9;tune a bars 1 0;tune b bars 1 (ice<12)*(0-5);tune c bars 1 2;tune d bars 1 1;skater s weight 7 at 0 0;");
        due.is("order(15)", x.order(15), 0);
        due.same("of those with c and d ahead of b", lying(x), "lies 4 0 2 3 1");
    }

    private void orderOfNone() {
        IceTunes x = Due.told(ROW);
        x.order(32);
        due.is("order(0)", x.order(0), 0);
        due.same("nothing lies", lying(x), "lies 0");
        x.play(0);
        due.is("order(0) with one IN", x.order(0), 1);
        due.same("nothing lies", lying(x), "lies 0");
    }

    // "how many are IN then"
    private void orderCountsAllIn() {
        IceTunes x = Due.told("pond 2 by 1;cell 0 0 ice 0;tune a bars 1 0;tune b bars 1 0-99;skater s weight 1 at 0 0;skater t weight 1 at 1 0;");
        due.is("one goes IN", x.order(1), 1);
        due.is("both go IN", x.order(3), 2);
        x.play(0);
        due.is("IN from before", x.order(1), 1);
        due.is("and one more", x.order(2), 2);
        x.play(1);
        due.is("nobody is left", x.order(3), 2);
        due.same("the first row", lying(x), "lies 2 0 1");
    }

    private void orderOfSix() {
        IceTunes x = Due.told("pond 1 by 1;ice 0;tune a bars 1 0;tune b bars 1 0;tune c bars 1 0;tune d bars 1 0;tune e bars 1 0;tune f bars 1 0;" + skaters(6));
        due.is("all six IN", x.order(63), 6);
        due.same("the first row", lying(x), "lies 6 0 1 2 3 4 5");
        due.is("a seventh TUNE", x.order(64), -1);
        due.is("with a seventh", x.order(127), -1);
    }

    private static String skaters(int count) {
        StringBuilder text = new StringBuilder();
        for (int i = 0; i < count; i++) {
            text.append("skater ").append((char) ('a' + i)).append(" weight 1 at 0 0;");
        }
        return text.toString();
    }

    // "DUEL by a set of TUNES for n (1 .. 4)"
    private void duelOfOneToFour() {
        IceTunes x = Due.told("pond 1 by 1;ice 10;tune a bars 1 0-1;skater s weight 7 at 0 0;");
        due.is("n 1", x.duel(1, 1, 0), 1);
        due.is("n 3", x.duel(1, 3, 0), 1);
        due.is("n 4", x.duel(1, 4, 0), 0);
        due.is("n 0", x.duel(1, 0, 0), -1);
        due.is("n 5", x.duel(1, 5, 0), -1);
        due.is("n 4, the choice", x.duel(1, 4, 1), 0);
        due.is("n 5, the choice", x.duel(1, 5, 1), -1);
        due.is("what 2", x.duel(1, 1, 2), -1);
    }

    // "any again"
    private void duelAnyAgain() {
        IceTunes x = Due.told("pond 1 by 1;ice 10;tune a bars 1 0-3;tune b bars 1 1;skater s weight 5 at 0 0;");
        due.is("band b, rival a, band b, rival a: 6", x.duel(3, 4, 0), 1);
        due.is("first b", x.duel(3, 4, 1), 1);
        x = Due.told("pond 1 by 1;ice 9;tune a bars 1 0-3;tune b bars 1 1;skater s weight 6 at 0 0;");
        due.is("band b, rival a, band b, rival a: 5", x.duel(3, 4, 0), 0);
        due.is("band b, rival a, band b: 8", x.duel(3, 3, 0), 1);
        due.is("band a and b fail, or b: 10 - 3", x.duel(3, 2, 0), 1);
    }

    // "how many are UP then at the most, however the rival chooses"
    private void duelHoweverTheRivalChooses() {
        // The rival thins the ICE where the band has not thickened it: b makes both thick, c the first alone.
        IceTunes x = Due.told("pond 2 by 1;ice 5;cell 1 0 ice 8;tune a bars 1 0-4;tune b bars 1 (ice>5)*2;tune c bars 1 (ice<6)*4;skater s weight 5 at 0 0;skater t weight 5 at 1 0;");
        due.is("the band alone", x.duel(7, 1, 0), 2);
        due.is("b or c, of like ones the first", x.duel(7, 1, 1), 1);
        due.is("then the rival takes a", x.duel(7, 2, 0), 1);
        due.is("behind b or c one is left", x.duel(7, 2, 1), 1);
        due.is("without a nobody goes IN", x.duel(6, 2, 0), 2);
        due.is("a alone", x.duel(1, 1, 0), 0);
    }

    // "the band's first choice (of like ones the first)"
    private void duelOfLikeOnes() {
        IceTunes x = Due.told("pond 1 by 1;tune a bars 1 0;tune b bars 1 0;tune c bars 1 0;tune d bars 1 0;tune e bars 1 0;tune f bars 1 0;skater s weight 1 at 0 0;");
        for (int n = 1; n <= 4; n++) {
            due.is("all alike: the first", x.duel(63, n, 1), 0);
            due.is("of the last two", x.duel(48, n, 1), 4);
            due.is("the last alone", x.duel(32, n, 1), 5);
            due.is("UP", x.duel(63, n, 0), 1);
        }
        x = Due.told("pond 1 by 1;ice 0;tune a bars 1 0;tune b bars 1 0;skater s weight 1 at 0 0;");
        due.is("none UP either way", x.duel(3, 1, 0), 0);
        due.is("the first", x.duel(3, 1, 1), 0);
        x.play(0);
        due.is("none UP from before", x.duel(2, 3, 0), 0);
        due.is("the one there is", x.duel(2, 3, 1), 1);
    }

    private void duelOfSixSkaters() {
        IceTunes x = Due.told("pond 1 by 1;ice 6;tune a bars 1 0;tune b bars 1 0-1;tune c bars 1 1;" + skaters(6));
        for (int n = 1; n <= 4; n++) {
            due.is("all six stay UP", x.duel(5, n, 0), 6);
            due.is("by the first", x.duel(5, n, 1), 0);
        }
        due.is("c, then the rival's b", x.duel(7, 2, 0) * 10 + x.duel(7, 2, 1), 62);
        due.is("all six go IN", x.duel(2, 1, 0), 0);
    }

    private void duelOfASetWithGaps() {
        IceTunes x = Due.told(ROW);
        due.is("only f holds", x.duel(33, 1, 0), 1);
        due.is("its number", x.duel(33, 1, 1), 5);
        due.is("a and e fail", x.duel(17, 1, 0), 0);
        due.is("the first of them", x.duel(17, 1, 1), 0);
        due.is("the first of d and e", x.duel(24, 2, 1), 3);
    }

    private static String weak(int count) {
        StringBuilder text = new StringBuilder("pond 5 by 1;tune a bars 1 0;");
        for (int i = 0; i < 5; i++) {
            text.append("cell ").append(i).append(" 0 ice ").append(i < count ? 1 : 2).append(";skater ").append((char) ('a' + i)).append(" weight 2 at ").append(i).append(" 0;");
        }
        return text.toString();
    }

    // "PLANKS for a TUNE: the fewest more (2 at most)"; "NONE if 2 are not enough"
    private void planksNoneToTwo() {
        String[] lies = {"lies 0", "lies 1 0", "lies 2 0 1", "lies 0", "lies 0", "lies 0"};
        int[] planks = {0, 1, 2, -1, -1, -1};
        for (int count = 0; count <= 5; count++) {
            IceTunes x = Due.told(weak(count));
            x.order(1);
            due.is(count + " too weak: planks(0)", x.planks(0), planks[count]);
            due.same(count + " too weak", lying(x), lies[count]);
        }
    }

    // "the fewest more": those told do not count
    private void planksMoreThanTold() {
        IceTunes x = Due.told(weak(4) + "plank at 1 0;plank at 3 0;");
        due.is("two more", x.planks(0), 2);
        due.same("the others", lying(x), "lies 2 0 2");
        x = Due.told(weak(5) + "plank at 1 0;plank at 3 0;");
        due.is("two more are not enough", x.planks(0), -1);
        x = Due.told(weak(2) + "plank at 0 0;plank at 1 0;");
        due.is("none more", x.planks(0), 0);
    }

    // "CELLS by y, then x"; "as x + 5 * y"
    private void planksByRows() {
        IceTunes x = Due.told("pond 5 by 5;cell 4 0 ice 1;cell 0 1 ice 1;tune a bars 1 0;skater s weight 2 at 0 1;skater t weight 2 at 4 0;");
        due.is("two", x.planks(0), 2);
        due.same("the upper row first", lying(x), "lies 2 4 5");
        x = Due.told("pond 5 by 5;ice 1;tune a bars 1 0;skater s weight 2 at 4 4;");
        due.is("the last CELL", x.planks(0) * 100 + x.lies(0), 124);
        x = Due.told("pond 2 by 2;ice 1;tune a bars 1 0;skater s weight 2 at 1 1;");
        due.is("5 in a row, however narrow", x.planks(0) * 100 + x.lies(0), 106);
    }

    // "so that nobody goes IN while it is played"
    private void planksWhileItIsPlayed() {
        IceTunes x = Due.told("pond 3 by 1;ice 5;tune a bars 2 0;tune b bars 3 0;tune c bars 1 0;cell 0 0 ice 1;skater s weight 2 at 1 0 stay west east;");
        due.is("not on his way yet", x.planks(2), 0);
        due.is("on his way", x.planks(0) * 100 + x.lies(0), 100);
        due.is("and beyond", x.planks(1) * 100 + x.lies(0), 100);
        x = Due.told("pond 3 by 1;ice 1;tune a bars 2 0;tune b bars 3 0;skater s weight 2 at 0 0 stay east east;");
        due.is("two of his way", x.planks(0), 2);
        due.same("first and second", lying(x), "lies 2 0 1");
        due.is("three of his way", x.planks(1), -1);
        due.same("nothing", lying(x), "lies 0");
    }

    // "(Below all is asked from what is now ..)"
    private void planksFromNow() {
        IceTunes x = Due.told("pond 2 by 1;ice 3;tune a bars 1 0-1;skater s weight 3 at 0 0;skater t weight 2 at 1 0;");
        due.is("one at first", x.planks(0) * 100 + x.lies(0), 100);
        due.is("played", x.play(0), 1);
        due.is("the other then", x.planks(0) * 100 + x.lies(0), 101);
        x.play(0);
        due.is("nobody left", x.planks(0), 0);
    }

    // "HUSH for a TUNE: silence of how many BARS (0 .. 8) ahead of it leaves the fewest IN behind it"
    private void hushZeroToEight() {
        for (int beat = 0; beat <= 9; beat++) {
            IceTunes x = Due.told("pond 1 by 1;ice 2;silence (beat=" + beat + ")*9;tune a bars 1 0-9;skater s weight 2 at 0 0;");
            due.is("thick enough behind " + (beat + 1) + " BARS", x.hush(0, 0), beat < 8 ? beat + 1 : 0);
            due.is("IN then", x.hush(0, 1), beat < 8 ? 0 : 1);
        }
        due.is("what 2", Due.told(ROW).hush(0, 2), -1);
        due.is("a sixth TUNE", Due.told(ROW).hush(5, 1), 0);
        due.is("a seventh", Due.told(ROW).hush(6, 1), -1);
    }

    // "the least such number"
    private void hushLeastSuchNumber() {
        IceTunes x = Due.told("pond 1 by 1;ice 9;silence 1;tune a bars 1 0-9;tune b bars 1 0-12;tune c bars 1 0;skater s weight 2 at 0 0;");
        due.is("from 2 on all are alike", x.hush(0, 0), 2);
        due.is("from 5 on", x.hush(1, 0), 5);
        due.is("from 0 on", x.hush(2, 0), 0);
        x = Due.told("pond 1 by 1;ice 9;silence 0;tune a bars 1 0-9;skater s weight 2 at 0 0;");
        due.is("none helps", x.hush(0, 0) * 10 + x.hush(0, 1), 1);
        x = Due.told("pond 2 by 1;ice 9;tune a bars 1 0-9;skater s weight 2 at 0 0 east;");
        due.is("no silence line", x.hush(0, 0) * 10 + x.hush(0, 1), 1);
    }

    private void hushCountsAllIn() {
        IceTunes x = Due.told("pond 2 by 1;ice 9;cell 0 0 ice 0;silence 1;tune a bars 1 0-9;skater s weight 2 at 0 0;skater t weight 2 at 1 0;");
        due.is("two BARS are best", x.hush(0, 0) * 10 + x.hush(0, 1), 21);
        x.hold(1);
        due.is("one is IN, one BAR more", x.hush(0, 0) * 10 + x.hush(0, 1), 11);
        x.play(0);
        due.is("both are IN", x.hush(0, 0) * 10 + x.hush(0, 1), 2);
        x = Due.told("pond 1 by 1;ice 0;tune a bars 1 0;" + skaters(6));
        due.is("all six go IN", x.hush(0, 0) * 10 + x.hush(0, 1), 6);
        x = Due.told("pond 1 by 1;ice 6;tune a bars 1 0;" + skaters(6));
        due.is("none of six", x.hush(0, 0) * 10 + x.hush(0, 1), 0);
    }

    // "BREAK of a TUNE by d (-9 .. 9): if the ICE of all CELLS were so much more"
    private void breaksByThickness() {
        IceTunes x = Due.told("pond 1 by 1;ice 19;tune a bars 1 0;skater s weight 10 at 0 0;");
        due.is("19 - 9 holds", x.breaks(0, -9), -1);
        due.is("-10 can't be", x.breaks(0, -10), -2);
        x = Due.told("pond 1 by 1;ice 18;tune a bars 1 0;skater s weight 10 at 0 0;");
        due.is("18 - 9 breaks", x.breaks(0, -9), 0);
        due.is("18 - 8 holds", x.breaks(0, -8), -1);
        x = Due.told("pond 1 by 1;ice 1;tune a bars 1 0;skater s weight 10 at 0 0;");
        due.is("1 + 9 holds", x.breaks(0, 9), -1);
        due.is("1 + 8 breaks", x.breaks(0, 8), 0);
        due.is("1 breaks", x.breaks(0, 0), 0);
        due.is("10 can't be", x.breaks(0, 10), -2);
        x = Due.told("pond 5 by 5;ice 50;cell 4 4 ice 5;tune a bars 1 0;skater s weight 6 at 4 4;skater t weight 6 at 0 0;");
        due.is("of all CELLS: the last", x.breaks(0, 0), 0);
        due.is("one more", x.breaks(0, 1), -1);
    }

    // "(0 at least, 99 at most)"
    private void breaksWithin0And99() {
        IceTunes x = Due.told("pond 1 by 1;ice 3;tune a bars 1 5;skater s weight 5 at 0 0;");
        due.is("3 - 3 is 0", x.breaks(0, -3), -1);
        due.is("3 - 4 is 0", x.breaks(0, -4), -1);
        due.is("3 - 9 is 0", x.breaks(0, -9), -1);
        x = Due.told("pond 1 by 1;ice 3;tune a bars 1 0;skater s weight 1 at 0 0;");
        due.is("3 - 2 is 1", x.breaks(0, -2), -1);
        due.is("3 - 3 is 0, not more", x.breaks(0, -3), 0);
        due.is("3 - 9 is 0, not more", x.breaks(0, -9), 0);
        x = Due.told("pond 1 by 1;ice 95;tune a bars 1 0-50;skater s weight 49 at 0 0;");
        due.is("95 + 4 is 99", x.breaks(0, 4), -1);
        due.is("95 + 3 is 98", x.breaks(0, 3), 0);
        x = Due.told("pond 1 by 1;ice 95;tune a bars 1 0-50;skater s weight 50 at 0 0;");
        due.is("95 + 5 is 99", x.breaks(0, 5), 0);
        due.is("95 + 9 is 99", x.breaks(0, 9), 0);
    }

    // "its first BAR in which a CELL BREAKS (none, if none does)"
    private void breaksAtFirstAndLastBar() {
        for (int beat = 0; beat < 12; beat++) {
            IceTunes x = Due.told("pond 1 by 1;ice 5;tune a bars 12 (beat=" + beat + ")*(0-1);tune b bars 11 (beat=" + beat + ")*(0-1);skater s weight 5 at 0 0;");
            due.is("the BAR " + beat, x.breaks(0, 0), beat);
            due.is("the BAR " + beat + " of 11", x.breaks(1, 0), beat < 11 ? beat : -1);
            due.is("one more", x.breaks(0, 1), -1);
        }
        IceTunes x = Due.told("pond 2 by 1;ice 5;tune a bars 3 0-1;skater s weight 4 at 0 0;skater t weight 3 at 1 0;");
        due.is("the first of two", x.breaks(0, 0), 1);
    }

    private void breaksFromNow() {
        IceTunes x = Due.told("pond 1 by 1;ice 9;plank at 0 0;tune a bars 4 0-1;skater s weight 5 at 0 0;");
        due.is("planks as told", x.breaks(0, -9), -1);
        x = Due.told("pond 1 by 1;ice 9;tune a bars 4 0-1;tune b bars 2 0-2;skater s weight 5 at 0 0;");
        due.is("at first", x.breaks(0, 0), -1);
        x.play(1);
        due.is("its BAR, not the EVENING's", x.breaks(0, 0), 0);
        due.is("one more", x.breaks(0, 1), 1);
        x.play(1);
        due.is("nobody is left to break in", x.breaks(0, -9), -1);
    }

    // "The i-th number of what lies there"
    private void liesTillAnother() {
        IceTunes x = Due.told(ROW);
        due.is("nothing yet", x.lies(0), -1);
        x.order(63);
        for (int i = 0; i < 6; i++) {
            due.is("lies(" + i + ")", x.lies(i), 5 - i);
        }
        due.is("lies(6)", x.lies(6), -1);
        due.is("lies(-1)", x.lies(-1), -1);
        x.play(5);
        x.hold(3);
        x.undo();
        x.redo();
        x.duel(63, 2, 0);
        x.hush(0, 0);
        x.breaks(0, 0);
        x.sight(1, 0, 0, 0, 0);
        x.sure(1, 0, 0);
        x.later(1);
        x.image(0);
        x.back(0);
        due.same("still", lying(x), "lies 6 5 4 3 2 1 0");
        x.planks(0);
        due.same("a CELL", lying(x), "lies 1 0");
        x.asked(2, -1);
        due.same("a row", lying(x), "lies 2 0 0");
        x.order(32);
        due.same("an order", lying(x), "lies 1 5");
    }
}
