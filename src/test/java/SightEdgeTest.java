/** SIGHTS, TIMES, ASKED and SURE at their bounds. */
public final class SightEdgeTest {
    private static final String TWO = "pond 2 by 1;ice 20;tune a bars 1 1;tune b bars 1 2;skater s weight 5 at 0 0;";

    private final Due due = new Due();

    public static void main(String[] args) {
        SightEdgeTest test = new SightEdgeTest();
        test.thirtySights();
        test.sightsOfBothSortsAreOneRow();
        test.bars1To36();
        test.barsBehindTheirEnd();
        test.fromLeastToMost();
        test.ofEachCell();
        test.upOrIn();
        test.rowsOfOneToThree();
        test.noTunesNoRows();
        test.fromTheBeginning();
        test.allThatCountAreSo();
        test.toldAtKOrBefore();
        test.untoldAtKOrBefore();
        test.toldAndUntoldAtOneTime();
        test.knownInTwoTimes();
        test.timesOutOfReach();
        test.firstOfRows();
        test.sureOfAPlace();
        test.timeGoesOn();
        test.timeTo100000();
        test.due.end();
    }

    // "SIGHTS, 30 at most"
    private void thirtySights() {
        IceTunes x = Due.told(TWO);
        for (int i = 0; i < 30; i++) {
            due.is("its number", x.sight(1, 0, 0, 0, 99), i);
        }
        due.is("a 31st", x.sight(1, 0, 0, 0, 99), -1);
        due.is("a 31st of a SKATER", x.seen(1, 0, true), -1);
        due.is("30 are there", x.about(8), 30);
        due.is("the last is untold", x.untell(29), true);
        due.is("there is none behind it", x.untell(30), false);
        due.is("a 31st still", x.sight(1, 0, 0, 0, 99), -1);
        due.is("30 still", x.about(8), 30);
        x = Due.told(TWO);
        for (int i = 0; i < 29; i++) {
            x.seen(1, 0, true);
        }
        x.sight(1, 0, 0, 22, 22);
        due.is("the 30th counts", x.asked(1, 0) * 10 + x.lies(0), 11);
    }

    private void sightsOfBothSortsAreOneRow() {
        IceTunes x = Due.told(TWO);
        due.is("ICE", x.sight(1, 0, 0, 0, 99), 0);
        due.is("SKATER", x.seen(1, 0, true), 1);
        due.is("ICE again", x.sight(1, 1, 0, 22, 22), 2);
        due.is("b", x.asked(1, 0) * 10 + x.lies(0), 11);
        due.is("untell the last", x.untell(2), true);
        due.is("a or b", x.asked(1, 0), 2);
    }

    // "behind so many BARS (1 .. 36)"
    private void bars1To36() {
        IceTunes x = Due.told("pond 1 by 1;ice 0;tune a bars 12 1;tune b bars 12 2;tune c bars 11 1;");
        due.is("bar 1", x.sight(1, 0, 0, 1, 1), 0);
        due.is("a or c first", x.asked(3, 0), 18);
        due.is("bar 36", x.sight(36, 0, 0, 36, 36), 1);
        due.is("a a a alone", x.asked(3, 0), 1);
        due.same("its row", Look.lying(x), "lies 3 0 0 0");
        due.is("bar 0", x.sight(0, 0, 0, 0, 99), -1);
        due.is("bar 37", x.sight(37, 0, 0, 0, 99), -1);
        due.is("SKATER, bar 37", x.seen(37, 0, true), -1);
        x = Due.told("pond 1 by 1;ice 0;tune a bars 3 1;");
        x.sight(3, 0, 0, 3, 3);
        due.is("behind three BARS", x.asked(1, 0), 1);
        x.sight(2, 0, 0, 2, 2);
        due.is("behind two", x.asked(1, 0), 1);
        x.sight(1, 0, 0, 1, 1);
        due.is("behind one", x.asked(1, 0), 1);
        x.sight(1, 0, 0, 0, 0);
        due.is("not ahead of it", x.asked(1, 0), 0);
    }

    // "(BARS behind their end: not so)"
    private void barsBehindTheirEnd() {
        IceTunes x = Due.told("pond 1 by 1;tune a bars 4 0;tune b bars 5 0;skater s weight 1 at 0 0;");
        x.seen(4, 0, true);
        due.is("4 BARS: both", x.asked(1, 0), 2);
        x.seen(5, 0, true);
        due.is("5 BARS: b", x.asked(1, 0) * 10 + x.lies(0), 11);
        due.is("two TUNES: all", x.asked(2, 0), 4);
        x.sight(9, 0, 0, 0, 99);
        due.is("9 BARS: all but a a", x.asked(2, 0), 3);
        x.sight(10, 0, 0, 0, 99);
        due.is("10 BARS: b b", x.asked(2, 0), 1);
        due.same("its row", Look.lying(x), "lies 2 1 1");
        x.sight(11, 0, 0, 0, 99);
        due.is("11 BARS: none of two", x.asked(2, 0), 0);
        due.same("nothing lies", Look.lying(x), "lies 0");
        due.is("nor sure", x.sure(2, 0, 0), -1);
        due.is("11 BARS: all of three", x.asked(3, 0), 8);
        x.seen(16, 0, false);
        due.is("never IN behind the end", x.asked(3, 0), 0);
    }

    private int rows(int least, int most) {
        IceTunes x = Due.told(TWO);
        x.sight(1, 1, 0, least, most);
        int rows = x.asked(1, 0);
        return rows * 10 + Math.max(0, x.lies(0));
    }

    // "the ICE of a CELL was from least to most": 21 by a, 22 by b
    private void fromLeastToMost() {
        due.is("21 to 22", rows(21, 22), 20);
        due.is("21 to 21", rows(21, 21), 10);
        due.is("22 to 22", rows(22, 22), 11);
        due.is("0 to 20", rows(0, 20), 0);
        due.is("0 to 21", rows(0, 21), 10);
        due.is("22 to 99", rows(22, 99), 11);
        due.is("23 to 99", rows(23, 99), 0);
        due.is("0 to 99", rows(0, 99), 20);
        IceTunes x = Due.told("pond 1 by 1;ice 98;tune a bars 1 1;tune b bars 1 0-99;");
        x.sight(1, 0, 0, 99, 99);
        due.is("99 to 99", x.asked(1, 0) * 10 + x.lies(0), 10);
        x = Due.told("pond 1 by 1;ice 98;tune a bars 1 1;tune b bars 1 0-99;");
        x.sight(1, 0, 0, 0, 0);
        due.is("0 to 0", x.asked(1, 0) * 10 + x.lies(0), 11);
    }

    // "the ICE of a CELL": of that one alone
    private void ofEachCell() {
        StringBuilder text = new StringBuilder("pond 5 by 5;tune a bars 1 0;");
        for (int i = 0; i < 25; i++) {
            text.append("cell ").append(i % 5).append(' ').append(i / 5).append(" ice ").append(i + 1).append(';');
        }
        IceTunes x = Due.told(text.toString());
        for (int i = 0; i < 25; i++) {
            due.is("a SIGHT", x.sight(1, i % 5, i / 5, i + 1, i + 1), i);
            due.is("it is so", x.asked(1, 0), 1);
        }
        due.is("of another", x.sight(1, 4, 4, 24, 24), 25);
        due.is("is not so", x.asked(1, 0), 0);
    }

    // "or a SKATER was UP, or was IN"
    private void upOrIn() {
        String text = "pond 2 by 1;ice 9;tune a bars 2 0;tune b bars 2 0-(beat=1);skater s weight 9 at 0 0;skater t weight 1 at 1 0;";
        IceTunes x = Due.told(text);
        x.seen(2, 0, false);
        due.is("IN behind 2", x.asked(1, 0) * 10 + x.lies(0), 11);
        x.seen(1, 0, true);
        due.is("UP behind 1", x.asked(1, 0) * 10 + x.lies(0), 11);
        x.seen(2, 1, true);
        due.is("the other UP", x.asked(1, 0) * 10 + x.lies(0), 11);
        x.seen(2, 1, false);
        due.is("not both UP and IN", x.asked(1, 0), 0);
        x = Due.told(text);
        x.seen(2, 0, true);
        due.is("UP behind 2", x.asked(1, 0) * 10 + x.lies(0), 10);
        x = Due.told(text);
        x.seen(1, 0, false);
        due.is("nobody IN behind 1", x.asked(1, 0), 0);
        x = Due.told(text);
        x.sight(2, 0, 0, 0, 0);
        due.is("broken ICE is seen as 0", x.asked(1, 0) * 10 + x.lies(0), 11);
    }

    // "ASKED by n (1 .. 3): rows of n TUNES (any again)"
    private void rowsOfOneToThree() {
        StringBuilder text = new StringBuilder("pond 1 by 1;");
        for (int tunes = 1; tunes <= 6; tunes++) {
            text.append("tune ").append((char) ('a' + tunes)).append(" bars 12 0;");
            IceTunes x = Due.told(text.toString());
            due.is("rows of one of " + tunes, x.asked(1, 0), tunes);
            due.is("rows of two of " + tunes, x.asked(2, 0), tunes * tunes);
            due.is("rows of three of " + tunes, x.asked(3, 0), tunes * tunes * tunes);
            due.same("the first", Look.lying(x), "lies 3 0 0 0");
            due.is("rows of none", x.asked(0, 0), -1);
            due.is("rows of four", x.asked(4, 0), -1);
            due.is("sure", x.sure(3, 2, 0), tunes == 1 ? 0 : -2);
        }
    }

    private void noTunesNoRows() {
        IceTunes x = Due.told("pond 1 by 1;");
        due.is("asked", x.asked(1, 0), 0);
        due.is("nothing lies", x.about(12), 0);
        due.is("sure", x.sure(1, 0, 0), -1);
        due.is("asked(3)", x.asked(3, 0), 0);
    }

    // "played one behind the other from the beginning"
    private void fromTheBeginning() {
        IceTunes x = Due.told(TWO);
        x.play(1);
        x.hold(5);
        x.sight(1, 0, 0, 21, 21);
        due.is("not from now", x.asked(1, 0) * 10 + x.lies(0), 10);
        due.is("sure", x.sure(1, 0, 0), 0);
        due.is("now is as it was", x.ice(0, 0) * 10 + x.about(5), 226);
        x = Due.told("pond 2 by 1;ice 3;tune a bars 1 0;tune b bars 1 9;skater s weight 4 at 0 0 stay east;");
        x.seen(2, 0, true);
        x.sight(2, 1, 0, 12, 12);
        due.is("one behind the other", x.asked(2, 0), 1);
        due.same("b a", Look.lying(x), "lies 2 1 0");
    }

    // "by which all SIGHTS that count are so"
    private void allThatCountAreSo() {
        IceTunes x = Due.told(TWO);
        x.sight(2, 0, 0, 23, 23);
        due.is("a b, b a", x.asked(2, 0), 2);
        due.is("not sure of the first", x.sure(2, 0, 0), -2);
        x.sight(1, 1, 0, 22, 22);
        due.is("b a", x.asked(2, 0), 1);
        due.is("sure of the first", x.sure(2, 0, 0), 1);
        due.is("sure of the second", x.sure(2, 1, 0), 0);
        x.sight(1, 1, 0, 21, 21);
        due.is("none", x.asked(2, 0), 0);
    }

    // "those count that were TOLD at k or before"
    private void toldAtKOrBefore() {
        IceTunes x = Due.told(TWO);
        x.later(5);
        x.sight(1, 0, 0, 21, 21);
        x.later(5);
        due.is("at 4", x.asked(1, 4), 2);
        due.is("at 5", x.asked(1, 5), 1);
        due.is("at 6", x.asked(1, 6), 1);
        due.is("sure at 4", x.sure(1, 0, 4), -2);
        due.is("sure at 5", x.sure(1, 0, 5), 0);
        x = Due.told(TWO);
        x.sight(1, 0, 0, 21, 21);
        due.is("at 0, told at 0", x.asked(1, 0), 1);
        due.is("ahead of 0", x.asked(1, -1), 2);
    }

    // "not UNTOLD at k or before"
    private void untoldAtKOrBefore() {
        IceTunes x = Due.told(TWO);
        x.sight(1, 0, 0, 21, 21);
        x.later(7);
        due.is("untell", x.untell(0), true);
        x.later(7);
        due.is("at 0", x.asked(1, 0), 1);
        due.is("at 6", x.asked(1, 6), 1);
        due.is("at 7", x.asked(1, 7), 2);
        due.is("at 8", x.asked(1, 8), 2);
        due.is("sure at 6", x.sure(1, 0, 6), 0);
        due.is("sure at 7", x.sure(1, 0, 7), -2);
        due.is("untold already", x.untell(0), false);
        due.is("at 7 still", x.asked(1, 7), 2);
        due.is("at 6 still", x.asked(1, 6), 1);
    }

    // "UNTOLD at a later one or the same"
    private void toldAndUntoldAtOneTime() {
        IceTunes x = Due.told(TWO);
        x.later(3);
        x.sight(1, 0, 0, 21, 21);
        x.untell(0);
        x.later(3);
        for (int k = 2; k <= 6; k++) {
            due.is("never known, at " + k, x.asked(1, k), 2);
        }
        x = Due.told(TWO);
        x.sight(1, 0, 0, 21, 21);
        x.untell(0);
        due.is("at 0", x.asked(1, 0), 2);
    }

    private void knownInTwoTimes() {
        IceTunes x = Due.told(TWO);
        x.sight(1, 0, 0, 21, 21);
        x.later(1);
        x.sight(1, 0, 0, 22, 22);
        due.is("known now: both, so none", x.asked(1, 1), 0);
        x.untell(0);
        due.is("known at 0: a", x.asked(1, 0) * 10 + x.lies(0), 10);
        due.is("known at 1: b", x.asked(1, 1) * 10 + x.lies(0), 11);
        x.later(1);
        x.untell(1);
        due.is("known at 2: all", x.asked(1, 2), 2);
        due.is("known at 1: b still", x.sure(1, 0, 1), 1);
        due.is("known at 0: a still", x.sure(1, 0, 0), 0);
    }

    private void timesOutOfReach() {
        IceTunes x = Due.told(TWO);
        x.sight(1, 0, 0, 21, 21);
        due.is("long before", x.asked(1, Integer.MIN_VALUE), 2);
        due.is("long behind", x.asked(1, Integer.MAX_VALUE), 1);
        due.is("above all TIMES", x.sure(1, 0, 100001), 0);
    }

    // "the first (by TUNES, the first counts most)"
    private void firstOfRows() {
        IceTunes x = Due.told("pond 1 by 1;ice 0;tune a bars 1 1;tune b bars 1 2;tune c bars 1 3;");
        x.sight(3, 0, 0, 6, 6);
        due.is("1 2 3 in all ways, and 2 2 2", x.asked(3, 0), 7);
        due.same("the first", Look.lying(x), "lies 3 0 1 2");
        x.sight(1, 0, 0, 2, 3);
        due.is("b or c first", x.asked(3, 0), 5);
        due.same("the first", Look.lying(x), "lies 3 1 0 2");
        x.sight(2, 0, 0, 4, 5);
        due.is("4 or 5 behind two", x.asked(3, 0), 4);
        due.same("the first", Look.lying(x), "lies 3 1 1 1");
    }

    // "SURE of a place: the one TUNE that stands there in all"; "-2 if it is not one TUNE"; "NONE if there are no rows"
    private void sureOfAPlace() {
        IceTunes x = Due.told("pond 1 by 1;ice 0;tune a bars 1 1;tune b bars 1 2;tune c bars 1 3;");
        x.sight(1, 0, 0, 3, 3);
        due.is("place 0", x.sure(3, 0, 0), 2);
        due.is("place 1", x.sure(3, 1, 0), -2);
        due.is("place 2", x.sure(3, 2, 0), -2);
        x.sight(3, 0, 0, 8, 8);
        due.is("c b c, c c b", x.asked(3, 0), 2);
        due.is("place 0", x.sure(3, 0, 0), 2);
        due.is("place 1", x.sure(3, 1, 0), -2);
        x.sight(2, 0, 0, 5, 5);
        due.is("place 1", x.sure(3, 1, 0), 1);
        due.is("place 2, the last", x.sure(3, 2, 0), 2);
        due.is("place 3", x.sure(3, 3, 0), -1);
        due.is("place -1", x.sure(3, -1, 0), -1);
        due.is("place 1 of 1", x.sure(1, 1, 0), -1);
        due.is("no rows of 2", x.sure(2, 0, 0), -1);
        x.sight(1, 0, 0, 1, 1);
        due.is("no rows", x.sure(3, 0, 0), -1);
    }

    // "So much later (0 .. 1000): the TIME"
    private void timeGoesOn() {
        IceTunes x = new IceTunes();
        due.is("0 at first", x.about(9), 0);
        due.is("later(0)", x.later(0), 0);
        due.is("later(1)", x.later(1), 1);
        due.is("later(1000)", x.later(1000), 1001);
        due.is("later(1001)", x.later(1001), -1);
        due.is("later(-1)", x.later(-1), -1);
        due.is("the TIME", x.about(9), 1001);
    }

    // "if it would be above 100,000"
    private void timeTo100000() {
        IceTunes x = new IceTunes();
        for (int i = 1; i <= 100; i++) {
            due.is("later", x.later(1000), 1000 * i);
        }
        due.is("above", x.later(1), -1);
        due.is("far above", x.later(1000), -1);
        due.is("the TIME", x.about(9), 100000);
        due.is("no later", x.later(0), 100000);
        Due.tell(x, TWO);
        due.is("a POND leaves it", x.about(9), 100000);
        x.sight(1, 0, 0, 21, 21);
        due.is("told at the last TIME", x.asked(1, 100000), 1);
        due.is("not known before", x.asked(1, 99999), 2);
    }
}
