/** A BAR at its boundaries: steps at the rim, wrapping ints, / and % by 0, the least and the most ICE, when a CELL BREAKS. */
public final class BarEdgeTest {
    // 2 to the 31st wraps to the lowest int; one less wraps to the highest.
    private static final String LOWEST = "(8192*8192*32)";
    private static final String HIGHEST = "(8192*8192*32-1)";

    private final Due due = new Due();

    public static void main(String[] args) {
        BarEdgeTest test = new BarEdgeTest();
        test.beatFromZero();
        test.beatOfEachSilence();
        test.stepByTheEveningsBar();
        test.staysAtTheRim();
        test.thoseInGoNoMore();
        test.loadTogether();
        test.iceAtOnce();
        test.iceThatWas();
        test.loadBehindTheStep();
        test.aroundUpToFour();
        test.sumsWrap();
        test.productsWrap();
        test.divisionCuts();
        test.divisionByZero();
        test.lowestByMinusOne();
        test.relationsAreOneOrZero();
        test.andOrNotOfWhatIsNotZero();
        test.whatBindsFirst();
        test.iceAtLeastZero();
        test.iceAtMost99();
        test.breaksIfLoadIsMore();
        test.breaksBehindTheIceChanged();
        test.plankNeverBreaks();
        test.brokenIceIsZero();
        test.allThereAreIn();
        test.silenceWithoutALineBreaksToo();
        test.due.end();
    }

    /** What e is, if it is from -50 to 49: the ICE of a CELL with 50 is more by it. */
    private void e(String formula, int value) {
        IceTunes x = Due.told("pond 1 by 1;silence " + formula + ";");
        x.hold(1);
        due.is(formula, x.ice(0, 0) - 50, value);
        Due.tell(x, "pond 1 by 1;tune a bars 1 " + formula + ";");
        x.play(0);
        due.is("tune: " + formula, x.ice(0, 0) - 50, value);
    }

    private void isTrue(String formula) {
        e(formula, 1);
    }

    // "beat: its number in it, from 0"
    private void beatFromZero() {
        IceTunes x = Due.told("pond 1 by 1;ice 0;tune a bars 1 beat;tune b bars 12 (beat = 11) * 5;tune c bars 12 (beat = 12) * 5;tune d bars 3 (beat = 0) * 7;");
        x.play(0);
        due.is("the first beat is 0", x.ice(0, 0), 0);
        x.play(1);
        due.is("the last of 12 is 11", x.ice(0, 0), 5);
        x.play(2);
        due.is("none is 12", x.ice(0, 0), 5);
        x.play(3);
        x.play(3);
        due.is("each TUNE from 0", x.ice(0, 0), 19);
    }

    // "or of silence (beat: its number in that silence)"
    private void beatOfEachSilence() {
        IceTunes x = Due.told("pond 1 by 1;ice 0;silence (beat = 0) + (beat = 19) * 10 + (beat = 20) * 50;tune a bars 2 0;");
        x.hold(1);
        x.hold(2);
        due.is("each silence from 0", x.ice(0, 0), 2);
        x.play(0);
        x.hold(19);
        due.is("19 BARS have no beat 19", x.ice(0, 0), 3);
        x.hold(20);
        due.is("20 BARS do, and no beat 20", x.ice(0, 0), 14);
    }

    // "the n-th BAR of the evening, from 0, his n-th, again and again"
    private void stepByTheEveningsBar() {
        IceTunes x = Due.told("pond 4 by 4;tune a bars 2 0;skater s weight 1 at 0 0 east south stay;");
        x.hold(1);
        due.is("bar 0: east", x.skater(0, 0) * 10 + x.skater(0, 1), 10);
        x.play(0);
        due.is("bars 1, 2: south, stay", x.skater(0, 0) * 10 + x.skater(0, 1), 11);
        x.hold(0);
        due.is("no BAR, no step", x.skater(0, 0) * 10 + x.skater(0, 1), 11);
        x.play(0);
        due.is("bars 3, 4: east, south", x.skater(0, 0) * 10 + x.skater(0, 1), 22);
        x.undo();
        x.hold(1);
        due.is("bar 3 again: east", x.skater(0, 0) * 10 + x.skater(0, 1), 21);
    }

    // "where there is no CELL he stays"; "north is less y, west less x"
    private void staysAtTheRim() {
        rim("north", 0, 0, 0, 0);
        rim("north", 0, 1, 0, 0);
        rim("west", 0, 0, 0, 0);
        rim("west", 1, 0, 0, 0);
        rim("east", 2, 0, 2, 0);
        rim("east", 1, 0, 2, 0);
        rim("south", 0, 1, 0, 1);
        rim("south", 0, 0, 0, 1);
        rim("stay", 1, 1, 1, 1);
        IceTunes x = Due.told("pond 5 by 5;skater a weight 1 at 4 4 east south;skater b weight 1 at 4 0 east;skater c weight 1 at 0 4 west;");
        x.hold(20);
        due.is("no way round to the next row", x.load(4, 4) * 100 + x.load(4, 0) * 10 + x.load(0, 4), 111);
        x = Due.told("pond 2 by 2;skater a weight 1 at 0 0 west east;");
        x.hold(2);
        due.is("the step is gone all the same", x.skater(0, 0), 1);
    }

    private void rim(String step, int x0, int y0, int x1, int y1) {
        IceTunes x = Due.told("pond 3 by 2;skater s weight 1 at " + x0 + " " + y0 + " " + step + ";");
        x.hold(1);
        due.is(step + " from " + x0 + " " + y0 + ": x", x.skater(0, 0), x1);
        due.is(step + " from " + x0 + " " + y0 + ": y", x.skater(0, 1), y1);
    }

    // "each SKATER who is UP goes"
    private void thoseInGoNoMore() {
        IceTunes x = Due.told("pond 3 by 1;cell 1 0 ice 0;skater s weight 1 at 0 0 east;");
        due.is("he goes IN", x.hold(1), 0);
        x.hold(5);
        due.is("and stays there", x.skater(0, 0), 1);
        due.is("in that BAR", x.skater(0, 3), 0);
    }

    // "LOAD of a CELL: weights of those UP there, together"
    private void loadTogether() {
        IceTunes x = Due.told("pond 2 by 1;cell 0 0 ice 11;cell 1 0 ice 0;skater a weight 5 at 0 0;skater b weight 6 at 0 0;skater c weight 7 at 1 0;");
        due.is("two of them", x.load(0, 0), 11);
        due.is("one", x.load(1, 0), 7);
        due.is("as thick as heavy", x.hold(1), 2);
        due.is("those IN weigh nothing", x.load(1, 0), 0);
        x = Due.told("pond 1 by 1;ice 98;plank at 0 0;silence (load = 594) * 1;" + six(99));
        x.hold(1);
        due.is("six of 99 are 594", x.ice(0, 0), 99);
    }

    private static String six(int weight) {
        StringBuilder text = new StringBuilder();
        for (char c = 'a'; c < 'g'; c++) {
            text.append("skater ").append(c).append(" weight ").append(weight).append(" at 0 0;");
        }
        return text.toString();
    }

    // "ICE of all CELLS at once is more by e"
    private void iceAtOnce() {
        IceTunes x = Due.told("pond 3 by 1;cell 0 0 ice 1;cell 1 0 ice 2;cell 2 0 ice 4;silence around;");
        x.hold(1);
        due.is("first", x.ice(0, 0), 3);
        due.is("middle", x.ice(1, 0), 7);
        due.is("last", x.ice(2, 0), 6);
    }

    // "ice: what it was"
    private void iceThatWas() {
        IceTunes x = Due.told("pond 1 by 1;ice 7;tune a bars 1 ice;tune b bars 1 0 - ice;tune c bars 2 ice * 2;");
        x.play(0);
        due.is("twice as much", x.ice(0, 0), 14);
        x.play(1);
        due.is("nothing", x.ice(0, 0), 0);
        x.undo();
        x.undo();
        x.play(2);
        due.is("thrice, twice", x.ice(0, 0), 63);
    }

    private void loadBehindTheStep() {
        IceTunes x = Due.told("pond 2 by 1;ice 20;silence load;skater s weight 5 at 0 0 east;");
        x.hold(1);
        due.is("where he was", x.ice(0, 0), 20);
        due.is("where he is", x.ice(1, 0), 25);
    }

    // "around: ICE of the CELLS beside, up to four, together"
    private void aroundUpToFour() {
        IceTunes x = Due.told("pond 3 by 3;ice 10;cell 1 1 ice 5;silence around;");
        x.hold(1);
        due.is("four", x.ice(1, 1), 45);
        due.is("three", x.ice(1, 0), 35);
        due.is("three, left", x.ice(0, 1), 35);
        due.is("three, right", x.ice(2, 1), 35);
        due.is("three, below", x.ice(1, 2), 35);
        due.is("two", x.ice(0, 0), 30);
        due.is("two", x.ice(2, 0), 30);
        due.is("two", x.ice(0, 2), 30);
        due.is("two", x.ice(2, 2), 30);
        e("around", 0);
        x = Due.told("pond 1 by 2;ice 10;silence around;");
        x.hold(1);
        due.is("one", x.ice(0, 0), 20);
        x = Due.told("pond 5 by 5;ice 99;silence (around = 396) * (0 - 1);");
        x.hold(1);
        due.is("four of 99", x.ice(2, 2), 98);
        due.is("three of 99", x.ice(4, 2), 99);
        x = Due.told("pond 2 by 5;cell 0 1 ice 0;cell 1 0 ice 1;silence around - 49;");
        x.hold(1);
        due.is("the narrow POND's own rows", x.ice(0, 0), 2);
    }

    // "ints, wrapping"
    private void sumsWrap() {
        isTrue(HIGHEST + " > 0");
        isTrue(LOWEST + " < 0");
        isTrue(HIGHEST + " + 1 = " + LOWEST);
        isTrue(LOWEST + " - 1 = " + HIGHEST);
        isTrue("0 - " + LOWEST + " = " + LOWEST);
        isTrue("0 - " + HIGHEST + " = " + LOWEST + " + 1");
        e(HIGHEST + " + 9999 - " + HIGHEST + " - 9990", 9);
        e(LOWEST + " - 5 + " + LOWEST, -5);
    }

    private void productsWrap() {
        isTrue("9999 * 9999 > 0");
        e("9999 * 9999 * 9999 % 50", 9999 * 9999 * 9999 % 50);
        e("9999 * 9999 * 9999 * 9999 % 50", 9999 * 9999 * 9999 * 9999 % 50);
        isTrue("8192 * 8192 * 16 > 0");
        isTrue("8192 * 8192 * 32 < 0");
        e("8192 * 8192 * 64", 0);
        isTrue(LOWEST + " * (0 - 1) = " + LOWEST);
        e(HIGHEST + " * " + HIGHEST, 1);
        e(HIGHEST + " * 2", -2);
    }

    // "/ cut, % its rest"
    private void divisionCuts() {
        e("7 / 2", 3);
        e("(0 - 7) / 2", -3);
        e("7 / (0 - 2)", -3);
        e("(0 - 7) / (0 - 2)", 3);
        e("7 % 3", 1);
        e("(0 - 7) % 3", -1);
        e("7 % (0 - 3)", 1);
        e("(0 - 7) % (0 - 3)", -1);
        e("6 % 3", 0);
        e("1 / 2", 0);
        e("(0 - 1) / 2", 0);
        e("5 % 9999", 5);
    }

    // "both by 0: 0"
    private void divisionByZero() {
        e("7 / 0", 0);
        e("7 % 0", 0);
        e("0 / 0", 0);
        e("0 % 0", 0);
        e("9 + 7 / 0", 9);
        e("9 - 7 % (3 - 3)", 9);
        e("(0 - 7) / (ice - 50)", 0);
        e(LOWEST + " % beat", 0);
        e(LOWEST + " / load", 0);
        e("7 / 0 * 5 + 3", 3);
        e("0 / 7", 0);
        e("0 % 7", 0);
        e("7 / 1", 7);
        e("7 % 1", 0);
    }

    private void lowestByMinusOne() {
        isTrue(LOWEST + " / (0 - 1) = " + LOWEST);
        e(LOWEST + " % (0 - 1)", 0);
        isTrue(HIGHEST + " / (0 - 1) = " + LOWEST + " + 1");
        e(HIGHEST + " % (0 - 1)", 0);
    }

    // "relations .. are 1 or 0"
    private void relationsAreOneOrZero() {
        e("4 < 5", 1);
        e("5 < 5", 0);
        e("6 < 5", 0);
        e("6 > 5", 1);
        e("5 > 5", 0);
        e("4 > 5", 0);
        e("5 = 5", 1);
        e("4 = 5", 0);
        e("6 = 5", 0);
        isTrue(LOWEST + " < " + HIGHEST);
        e(HIGHEST + " < " + LOWEST, 0);
        e(LOWEST + " > " + HIGHEST, 0);
        isTrue("0 - 1 < 0");
        e("(3 < 4) * 9", 9);
    }

    // "and, or, not are 1 or 0, of what is not 0"
    private void andOrNotOfWhatIsNotZero() {
        e("7 and 9", 1);
        e("7 and 0", 0);
        e("0 and 9", 0);
        e("0 and 0", 0);
        e("7 or 9", 1);
        e("7 or 0", 1);
        e("0 or 9", 1);
        e("0 or 0", 0);
        e("2 and 1", 1);
        e("not 0", 1);
        e("not 1", 0);
        e("not 7", 0);
        e("not (0 - 1)", 0);
        e("(0 - 1) and (0 - 2)", 1);
        e("(0 - 1) or 0", 1);
        e(LOWEST + " or 0", 1);
        e("not " + LOWEST, 0);
        e("not not 7", 1);
        e("not not 0", 0);
        e("not not not not not not not 0", 1);
    }

    private void whatBindsFirst() {
        e("2 + 3 * 4", 14);
        e("20 - 5 - 3", 12);
        e("24 / 4 / 2", 3);
        e("24 / 4 * 2", 12);
        e("17 % 10 * 2", 14);
        e("2 + 3 < 6", 1);
        e("1 or 1 and 0", 1);
        e("0 and 1 or 1", 1);
        e("not 1 < 1", 1);
        e("not 0 and 0", 0);
        e("not 0 + 5", 0);
        e("5 - (not 1)", 5);
    }

    private void after(String formula, int ice, int want) {
        IceTunes x = Due.told("pond 1 by 1;ice " + ice + ";silence " + formula + ";");
        x.hold(1);
        due.is("ICE " + ice + " by " + formula, x.ice(0, 0), want);
    }

    // "0 at least"
    private void iceAtLeastZero() {
        after("0 - 1", 1, 0);
        after("0 - 1", 0, 0);
        after("0 - 2", 1, 0);
        after("0 - 99", 99, 0);
        after("0 - 100", 99, 0);
        after("0 - 98", 99, 1);
        after("0 - 9999", 50, 0);
        after(LOWEST, 0, 0);
        after(LOWEST, 99, 0);
        after("0", 0, 0);
    }

    // "99 at most"
    private void iceAtMost99() {
        after("1", 98, 99);
        after("1", 99, 99);
        after("2", 98, 99);
        after("99", 0, 99);
        after("100", 0, 99);
        after("98", 0, 98);
        after("9999", 50, 99);
        after(HIGHEST, 0, 99);
        after(HIGHEST, 99, 99);
        after("0", 99, 99);
    }

    // "A CELL .. BREAKS, if its LOAD is more than its ICE"
    private void breaksIfLoadIsMore() {
        due.is("5 on 5", Due.told("pond 1 by 1;ice 5;skater s weight 5 at 0 0;").hold(1), 1);
        due.is("6 on 5", Due.told("pond 1 by 1;ice 5;skater s weight 6 at 0 0;").hold(1), 0);
        due.is("1 on 0", Due.told("pond 1 by 1;ice 0;skater s weight 1 at 0 0;").hold(1), 0);
        due.is("99 on 99", Due.told("pond 1 by 1;ice 99;skater s weight 99 at 0 0;").hold(1), 1);
        due.is("100 on 99", Due.told("pond 1 by 1;ice 99;skater s weight 99 at 0 0;skater t weight 1 at 0 0;").hold(1), 0);
        IceTunes x = Due.told("pond 1 by 1;ice 0;skater s weight 1 at 0 0;");
        due.is("not ahead of a BAR", x.about(13), 1);
        x = Due.told("pond 2 by 1;ice 0;plank at 0 0;tune a bars 1 0;skater s weight 1 at 0 0;");
        due.is("no LOAD breaks nothing", x.breaks(0, 0), -1);
    }

    private void breaksBehindTheIceChanged() {
        due.is("thick enough by then", Due.told("pond 1 by 1;ice 4;silence 1;skater s weight 5 at 0 0;").hold(1), 1);
        due.is("too thin by then", Due.told("pond 1 by 1;ice 5;silence 0 - 1;skater s weight 5 at 0 0;").hold(1), 0);
    }

    // "A CELL without a plank"
    private void plankNeverBreaks() {
        IceTunes x = Due.told("pond 1 by 1;ice 0;plank at 0 0;" + six(99));
        due.is("all six hold", x.hold(20), 6);
        x = Due.told("pond 2 by 1;ice 7;plank at 1 0;silence 0 - 1;skater s weight 9 at 1 0 stay west;");
        due.is("on the plank", x.hold(1), 1);
        due.is("its ICE thins, but is not broken", x.ice(1, 0), 6);
        due.is("off the plank", x.hold(1), 0);
    }

    // "those UP there are IN, its ICE is 0"
    private void brokenIceIsZero() {
        IceTunes x = Due.told("pond 2 by 1;ice 7;silence 1;skater s weight 9 at 0 0;");
        x.hold(1);
        due.is("broken", x.ice(0, 0), 0);
        due.is("whole", x.ice(1, 0), 8);
        x.hold(1);
        due.is("it freezes again", x.ice(0, 0), 1);
    }

    private void allThereAreIn() {
        IceTunes x = Due.told("pond 2 by 1;ice 7;skater a weight 4 at 0 0;skater b weight 4 at 0 0;skater c weight 7 at 1 0;");
        due.is("two of three", x.hold(1), 1);
        due.is("a and b", x.skater(0, 2) + x.skater(1, 2), 0);
        due.is("not c", x.skater(2, 2), 1);
    }

    private void silenceWithoutALineBreaksToo() {
        IceTunes x = Due.told("pond 2 by 1;ice 9;cell 1 0 ice 3;skater s weight 5 at 0 0 stay east;");
        due.is("first BAR", x.hold(1), 1);
        due.is("second BAR", x.hold(1), 0);
        due.is("ICE of the other stays", x.ice(0, 0), 9);
    }
}
