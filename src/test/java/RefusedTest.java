import java.util.function.Supplier;

/**
 * Refused calls: what they answer, and that they do nothing. Each is called on one of two objects with the same calls behind them;
 * then all that other calls show of both must be the same. Likewise for calls that only ask.
 */
public final class RefusedTest {
    private static final int LOW = Integer.MIN_VALUE;
    private static final int HIGH = Integer.MAX_VALUE;
    private static final String TEXT = "pond 3 by 2;ice 20;cell 2 1 ice 9;plank at 1 0;tune a bars 2 0 - 4;tune b bars 1 0 - load;tune c bars 3 5 - beat;silence 1;"
        + "skater s weight 8 at 0 0 east west;skater t weight 5 at 2 1;skater u weight 30 at 1 0;";

    interface Call {
        long on(IceTunes x);
    }

    private final Due due = new Due();

    public static void main(String[] args) {
        RefusedTest test = new RefusedTest();
        test.looksTellApart();
        test.feedBeyondTheTape();
        test.endBeyondTheTape();
        test.pondWithFault();
        test.askedOfNone();
        test.playAndHold();
        test.barsAbove2000();
        test.undoAndRedoOfNone();
        test.order();
        test.duel();
        test.planks();
        test.hush();
        test.breaks();
        test.sight();
        test.seen();
        test.sightsAbove30();
        test.untell();
        test.later();
        test.timeAbove100000();
        test.asked();
        test.sure();
        test.imageAndBack();
        test.emptyPond();
        test.nothingIsPlayed();
        test.due.end();
    }

    /** Something of all there is: ACTS done and undone, BOXES (1 is empty), SIGHTS told and untold, a TAPE, numbers that lie there. */
    private static IceTunes rich() {
        IceTunes x = Due.told(TEXT);
        x.later(3);
        x.sight(2, 0, 0, 0, 15);
        x.later(2);
        x.seen(2, 1, false);
        x.untell(0);
        x.later(1);
        x.play(0);
        x.image(0);
        x.hold(2);
        x.play(2);
        x.image(2);
        x.undo();
        x.undo();
        x.order(7);
        x.feed(0x706f6e64, 0x20312062, 0x7920313b, 0x69636520, 0x373b2020);
        return x;
    }

    private void refused(Supplier<IceTunes> maker, String call, Call c, long answer) {
        IceTunes without = maker.get();
        IceTunes with = maker.get();
        due.is(call, c.on(with), answer);
        due.same("behind " + call + " all", Look.all(with), Look.all(without));
    }

    private void refused(String call, Call c, long answer) {
        refused(RefusedTest::rich, call, c, answer);
    }

    /** For calls behind whose refusal nothing lies there. */
    private void clearing(String call, Call c, long answer) {
        IceTunes without = rich();
        IceTunes with = rich();
        due.is(call, c.on(with), answer);
        due.is("behind " + call + " numbers that lie there", with.about(12), 0);
        due.is("behind " + call + " lies(0)", with.lies(0), -1);
        due.same("behind " + call + " the rest", Look.faults(with) + Look.rest(with), Look.faults(without) + Look.rest(without));
    }

    private void differs(String call, Call c) {
        IceTunes with = rich();
        c.on(with);
        due.is(call + " is seen", Look.all(with).equals(Look.all(rich())), false);
    }

    /** If a look could not tell these apart, the tests below would say nothing. */
    private void looksTellApart() {
        differs("feed", x -> x.feed(0, 0, 0, 0, 0));
        differs("end(19)", x -> x.end(19));
        differs("play(0)", x -> x.play(0));
        differs("hold(0)", x -> x.hold(0));
        differs("undo", x -> x.undo() ? 1 : 0);
        differs("redo", x -> x.redo() ? 1 : 0);
        differs("order(1)", x -> x.order(1));
        differs("sight", x -> x.sight(36, 2, 1, 0, 99));
        differs("seen", x -> x.seen(1, 0, true));
        differs("untell(1)", x -> x.untell(1) ? 1 : 0);
        differs("later(1)", x -> x.later(1));
        differs("image(1)", x -> x.image(1));
        differs("image(2)", x -> x.image(2));
        differs("back(0)", x -> x.back(0));
    }

    // "NONE, and nothing comes, if there would be more than 1,600"
    private void feedBeyondTheTape() {
        for (int bytes = 1581; bytes <= 1600; bytes++) {
            int length = bytes;
            refused(() -> taped(length), "feed behind " + length, x -> x.feed(0x706f6e64, 0x20312062, 0x7920313b, 1, 2), -1);
        }
        IceTunes x = taped(1580);
        due.is("feed behind 1580", x.feed(0x20202020, 0x20202020, 0x20202020, 0x20202020, 0x2020203b), 1600);
        due.is("its pond", x.pond(), -1);
        due.is("its last byte", x.fault(1), 1599);
    }

    private static IceTunes taped(int blanks) {
        IceTunes x = Due.told(TEXT);
        for (int i = 0; i < 80; i++) {
            x.feed(0x20202020, 0x20202020, 0x20202020, 0x20202020, 0x20202020);
        }
        x.end(blanks);
        return x;
    }

    // "NONE, doing nothing, if it has not so many, or n is below 0"
    private void endBeyondTheTape() {
        for (int n : new int[] {21, 1600, 1601, HIGH, -1, LOW}) {
            refused("end(" + n + ")", x -> x.end(n), -1);
        }
        refused(() -> Due.told(TEXT), "end(1) of an empty TAPE", x -> x.end(1), -1);
        IceTunes x = rich();
        due.is("end(20)", x.end(20), 20);
        due.is("end(0)", x.end(0), 0);
        due.is("the TAPE is empty", x.about(10), 0);
    }

    // "NONE: a FAULT (all stays)"
    private void pondWithFault() {
        for (String text : new String[] {"A", "ice 1;", "pond 1 by 1;tune a bars 1 1;tune a bars 1 1;", "pond 6 by 1;", "pond 2 by 2;plank at 1 1;silence 3;tune z bars 1 (1;"}) {
            IceTunes without = rich();
            IceTunes with = rich();
            Due.tape(without, text);
            Due.tape(with, text);
            due.is("pond() of: " + text, with.pond(), -1);
            due.is("a FAULT of: " + text, with.fault(0) > 0 && with.fault(1) >= 0, true);
            due.same("behind the FAULT of: " + text, Look.lying(with) + Look.rest(with), Look.lying(without) + Look.rest(without));
        }
        IceTunes x = Due.told(TEXT);
        Due.tape(x, "pond 4 by 1;;");
        due.is("a FAULT", x.pond(), -1);
        due.is("the same again", x.pond(), -1);
        due.is("its place", x.fault(1), 12);
        due.is("the TAPE is there still", x.end(12), 12);
        due.is("and is a POND without its last", x.pond(), 4);
        due.is("no FAULT now", x.fault(0), 0);
        due.is("nor its place", x.fault(1), -1);
    }

    // Promises 5 to 8, 18 and 27: "NONE for another what", "NONE if there is none such", "-2 if there is none such, or for another what"
    private void askedOfNone() {
        for (int wrong : new int[] {-1, LOW, HIGH}) {
            refused("fault(" + wrong + ")", x -> x.fault(wrong), -1);
            refused("ice(" + wrong + ", 0)", x -> x.ice(wrong, 0), -1);
            refused("ice(0, " + wrong + ")", x -> x.ice(0, wrong), -1);
            refused("load(" + wrong + ", 0)", x -> x.load(wrong, 0), -1);
            refused("load(0, " + wrong + ")", x -> x.load(0, wrong), -1);
            refused("skater(" + wrong + ", 0)", x -> x.skater(wrong, 0), -2);
            refused("skater(0, " + wrong + ")", x -> x.skater(0, wrong), -2);
            refused("lies(" + wrong + ")", x -> x.lies(wrong), -1);
            refused("about(" + wrong + ")", x -> x.about(wrong), -1);
        }
        refused("fault(2)", x -> x.fault(2), -1);
        refused("ice(3, 0)", x -> x.ice(3, 0), -1);
        refused("ice(0, 2)", x -> x.ice(0, 2), -1);
        refused("load(3, 0)", x -> x.load(3, 0), -1);
        refused("load(0, 2)", x -> x.load(0, 2), -1);
        refused("skater(3, 0)", x -> x.skater(3, 0), -2);
        refused("skater(2, 6)", x -> x.skater(2, 6), -2);
        refused("lies(3)", x -> x.lies(3), -1);
        refused("about(14)", x -> x.about(14), -1);
        IceTunes x = rich();
        due.is("fault(1)", x.fault(1), -1);
        due.is("ice(2, 1) is there", x.ice(2, 1) >= 0, true);
        due.is("load(2, 1) is there", x.load(2, 1) >= 0, true);
        due.is("skater(2, 5) is there", x.skater(2, 5), -1);
        due.is("lies(2) is there", x.lies(2) >= 0, true);
        due.is("about(13) is there", x.about(13), 2);
    }

    // "NONE, doing nothing, if there is none such"
    private void playAndHold() {
        for (int wrong : new int[] {3, -1, 6, LOW, HIGH}) {
            refused("play(" + wrong + ")", x -> x.play(wrong), -1);
        }
        for (int wrong : new int[] {21, -1, LOW, HIGH}) {
            refused("hold(" + wrong + ")", x -> x.hold(wrong), -1);
        }
        due.is("play(2)", rich().play(2) >= 0, true);
        due.is("hold(20)", rich().hold(20) >= 0, true);
        due.is("hold(0)", rich().hold(0) >= 0, true);
    }

    /** 2,000 BARS less so many, with a silence to be redone. */
    private static IceTunes late(int less) {
        IceTunes x = Due.told(TEXT);
        for (int i = 0; i < 99; i++) {
            x.hold(20);
        }
        x.hold(20 - less);
        x.hold(0);
        x.undo();
        return x;
    }

    // "or there would be more than 2,000 BARS"
    private void barsAbove2000() {
        refused(() -> late(2), "play(2) of 3 BARS behind 1,998", x -> x.play(2), -1);
        refused(() -> late(2), "hold(3) behind 1,998", x -> x.hold(3), -1);
        refused(() -> late(0), "play(1) of a BAR behind 2,000", x -> x.play(1), -1);
        refused(() -> late(0), "hold(1) behind 2,000", x -> x.hold(1), -1);
        refused(() -> late(0), "hold(20) behind 2,000", x -> x.hold(20), -1);
        IceTunes x = late(2);
        due.is("play(0) of 2 BARS behind 1,998", x.play(0) >= 0, true);
        due.is("BARS", x.about(5), 2000);
        x = late(2);
        due.is("hold(2) behind 1,998", x.hold(2) >= 0, true);
        due.is("BARS", x.about(5), 2000);
        due.is("hold(0) behind 2,000", x.hold(0) >= 0, true);
        due.is("an ACT without a BAR", x.about(5), 2000);
    }

    // "false if there is none"
    private void undoAndRedoOfNone() {
        refused(() -> Due.told(TEXT), "undo()", x -> x.undo() ? 1 : 0, 0);
        refused(() -> Due.told(TEXT), "redo()", x -> x.redo() ? 1 : 0, 0);
        Supplier<IceTunes> undone = () -> {
            IceTunes x = rich();
            x.undo();
            return x;
        };
        refused(undone, "undo() behind all", x -> x.undo() ? 1 : 0, 0);
        Supplier<IceTunes> redone = () -> {
            IceTunes x = rich();
            x.redo();
            x.redo();
            return x;
        };
        refused(redone, "redo() behind all", x -> x.redo() ? 1 : 0, 0);
        due.is("undo() of the last one", rich().undo(), true);
        IceTunes x = undone.get();
        due.is("redo() of the first one", x.redo() && x.redo(), true);
        due.is("redo() of the last one", x.redo(), true);
        due.is("redo() of no more", x.redo(), false);
    }

    // "NONE if one can't be. It lies there then (behind NONE: nothing)."
    private void order() {
        for (int wrong : new int[] {8, 9, 15, 64, -1, LOW, HIGH, 1 << 30}) {
            clearing("order(" + wrong + ")", x -> x.order(wrong), -1);
        }
        due.is("order(7)", rich().order(7) >= 0, true);
        due.is("order(4)", rich().order(4) >= 0, true);
    }

    // "NONE if one can't be (no TUNES, too)"
    private void duel() {
        for (int wrong : new int[] {0, 8, 9, -1, LOW, HIGH}) {
            refused("duel(" + wrong + ", 1, 0)", x -> x.duel(wrong, 1, 0), -1);
        }
        for (int wrong : new int[] {0, 5, -1, LOW, HIGH}) {
            refused("duel(7, " + wrong + ", 1)", x -> x.duel(7, wrong, 1), -1);
        }
        for (int wrong : new int[] {2, -1, LOW, HIGH}) {
            refused("duel(7, 1, " + wrong + ")", x -> x.duel(7, 1, wrong), -1);
        }
        due.is("duel(7, 4, 1)", rich().duel(7, 4, 1) >= 0, true);
        due.is("duel(1, 1, 0)", rich().duel(1, 1, 0) >= 0, true);
    }

    // "-2 if there is no such TUNE. CELLS lie there then (behind NONE, -2: nothing)."
    private void planks() {
        for (int wrong : new int[] {3, -1, 6, LOW, HIGH}) {
            clearing("planks(" + wrong + ")", x -> x.planks(wrong), -2);
        }
        due.is("planks(2)", rich().planks(2) >= -1, true);
    }

    // "NONE if one can't be"
    private void hush() {
        for (int wrong : new int[] {3, -1, 6, LOW, HIGH}) {
            refused("hush(" + wrong + ", 0)", x -> x.hush(wrong, 0), -1);
        }
        for (int wrong : new int[] {2, -1, LOW, HIGH}) {
            refused("hush(0, " + wrong + ")", x -> x.hush(0, wrong), -1);
        }
        due.is("hush(2, 1)", rich().hush(2, 1) >= 0, true);
    }

    // "-2 if one can't be"
    private void breaks() {
        for (int wrong : new int[] {3, -1, 6, LOW, HIGH}) {
            refused("breaks(" + wrong + ", 0)", x -> x.breaks(wrong, 0), -2);
        }
        for (int wrong : new int[] {10, -10, LOW, HIGH}) {
            refused("breaks(0, " + wrong + ")", x -> x.breaks(0, wrong), -2);
        }
        due.is("breaks(2, 9)", rich().breaks(2, 9) >= -1, true);
        due.is("breaks(2, -9)", rich().breaks(2, -9) >= -1, true);
    }

    // "NONE, doing nothing, if one can't be (most below least, too; both 0 .. 99)"
    private void sight() {
        for (int wrong : new int[] {0, 37, -1, LOW, HIGH}) {
            refused("sight(" + wrong + ", 0, 0, 0, 99)", x -> x.sight(wrong, 0, 0, 0, 99), -1);
        }
        for (int wrong : new int[] {-1, 3, LOW, HIGH}) {
            refused("sight(1, " + wrong + ", 0, 0, 99)", x -> x.sight(1, wrong, 0, 0, 99), -1);
        }
        for (int wrong : new int[] {-1, 2, LOW, HIGH}) {
            refused("sight(1, 0, " + wrong + ", 0, 99)", x -> x.sight(1, 0, wrong, 0, 99), -1);
        }
        for (int[] wrong : new int[][] {{-1, 99}, {0, 100}, {100, 100}, {-1, -1}, {50, 49}, {99, 0}, {LOW, HIGH}, {HIGH, LOW}, {0, -1}, {100, 99}}) {
            refused("sight(1, 0, 0, " + wrong[0] + ", " + wrong[1] + ")", x -> x.sight(1, 0, 0, wrong[0], wrong[1]), -1);
        }
        IceTunes x = rich();
        due.is("sight(1, 2, 1, 0, 0)", x.sight(1, 2, 1, 0, 0), 2);
        due.is("sight(36, 0, 0, 99, 99)", x.sight(36, 0, 0, 99, 99), 3);
        due.is("sight(1, 0, 0, 0, 99)", x.sight(1, 0, 0, 0, 99), 4);
        due.is("sight(1, 0, 0, 50, 50)", x.sight(1, 0, 0, 50, 50), 5);
    }

    private void seen() {
        for (int wrong : new int[] {0, 37, -1, LOW, HIGH}) {
            refused("seen(" + wrong + ", 0, true)", x -> x.seen(wrong, 0, true), -1);
        }
        for (int wrong : new int[] {-1, 3, 6, LOW, HIGH}) {
            refused("seen(1, " + wrong + ", false)", x -> x.seen(1, wrong, false), -1);
        }
        IceTunes x = rich();
        due.is("seen(1, 2, true)", x.seen(1, 2, true), 2);
        due.is("seen(36, 0, false)", x.seen(36, 0, false), 3);
    }

    private static IceTunes sights(int count) {
        IceTunes x = rich();
        while (x.about(8) < count) {
            x.sight(1, 0, 0, 0, 99);
        }
        return x;
    }

    // "or there are 30"
    private void sightsAbove30() {
        due.is("the 30th", sights(29).sight(1, 0, 0, 0, 99), 29);
        due.is("the 30th of a SKATER", sights(29).seen(1, 0, true), 29);
        refused(() -> sights(30), "a 31st", x -> x.sight(1, 0, 0, 0, 0), -1);
        refused(() -> sights(30), "a 31st of a SKATER", x -> x.seen(1, 0, false), -1);
    }

    // "false if it is so already, or there is none such"
    private void untell() {
        for (int wrong : new int[] {0, 2, -1, 30, LOW, HIGH}) {
            refused("untell(" + wrong + ")", x -> x.untell(wrong) ? 1 : 0, 0);
        }
        IceTunes x = rich();
        due.is("untell(1)", x.untell(1), true);
        due.is("again", x.untell(1), false);
        x.later(1);
        due.is("and later", x.untell(1), false);
        x = sights(30);
        due.is("untell(29)", x.untell(29), true);
    }

    // "NONE, doing nothing, for another number"
    private void later() {
        for (int wrong : new int[] {-1, 1001, LOW, HIGH}) {
            refused("later(" + wrong + ")", x -> x.later(wrong), -1);
        }
        due.is("later(0)", rich().later(0), 6);
        due.is("later(1000)", rich().later(1000), 1006);
    }

    // "or if it would be above 100,000"
    private void timeAbove100000() {
        Supplier<IceTunes> nearly = () -> {
            IceTunes x = rich();
            for (int i = 0; i < 99; i++) {
                x.later(1000);
            }
            x.later(993);
            return x;
        };
        refused(nearly, "later(2) at 99,999", x -> x.later(2), -1);
        refused(nearly, "later(1000) at 99,999", x -> x.later(1000), -1);
        IceTunes x = nearly.get();
        due.is("later(1) at 99,999", x.later(1), 100000);
        due.is("later(1) at 100,000", x.later(1), -1);
        due.is("later(0) at 100,000", x.later(0), 100000);
    }

    // "NONE if one can't be. The first lies there then (behind 0, NONE: nothing)."
    private void asked() {
        for (int wrong : new int[] {0, 4, -1, LOW, HIGH}) {
            clearing("asked(" + wrong + ", 6)", x -> x.asked(wrong, 6), -1);
        }
        clearing("asked(1, 3)", x -> {
            x.seen(1, 0, false);
            int none = x.asked(1, 6);
            x.untell(2);
            return none;
        }, 0, 3);
        due.is("asked(1, 6)", rich().asked(1, 6) >= 0, true);
        due.is("asked(3, 6)", rich().asked(3, 6) >= 0, true);
    }

    /** Behind 0 rows nothing lies there; these calls leave a SIGHT more, of no account. */
    private void clearing(String call, Call c, long answer, int sights) {
        IceTunes x = rich();
        due.is(call, c.on(x), answer);
        due.is("behind " + call + " numbers that lie there", x.about(12), 0);
        due.is("behind " + call + " lies(0)", x.lies(0), -1);
        due.is("behind " + call + " SIGHTS", x.about(8), sights);
    }

    // "NONE if there are no rows, or one can't be"
    private void sure() {
        for (int wrong : new int[] {0, 4, -1, LOW, HIGH}) {
            refused("sure(" + wrong + ", 0, 6)", x -> x.sure(wrong, 0, 6), -1);
        }
        for (int n = 1; n <= 3; n++) {
            for (int wrong : new int[] {n, -1, LOW, HIGH}) {
                int many = n;
                refused("sure(" + n + ", " + wrong + ", 6)", x -> x.sure(many, wrong, 6), -1);
            }
        }
        due.is("sure(3, 2, 6)", rich().sure(3, 2, 6), -2);
    }

    // "NONE if there is none such"; "NONE, doing nothing, if nothing was"
    private void imageAndBack() {
        for (int wrong : new int[] {3, -1, LOW, HIGH}) {
            refused("image(" + wrong + ")", x -> x.image(wrong), -1);
            refused("back(" + wrong + ")", x -> x.back(wrong), -1);
        }
        refused("back(1) of an empty BOX", x -> x.back(1), -1);
        due.is("image(2)", rich().image(2), 2);
        due.is("back(2)", rich().back(2), 7);
        due.is("image(0)", rich().image(0), 2);
    }

    /** "a text may be empty: no CELLS": there is nothing of which to ask. */
    private void emptyPond() {
        Supplier<IceTunes> empty = IceTunes::new;
        refused(empty, "ice(0, 0)", x -> x.ice(0, 0), -1);
        refused(empty, "load(0, 0)", x -> x.load(0, 0), -1);
        refused(empty, "skater(0, 0)", x -> x.skater(0, 0), -2);
        refused(empty, "play(0)", x -> x.play(0), -1);
        refused(empty, "undo()", x -> x.undo() ? 1 : 0, 0);
        refused(empty, "redo()", x -> x.redo() ? 1 : 0, 0);
        refused(empty, "order(1)", x -> x.order(1), -1);
        refused(empty, "order(0)", x -> x.order(0), 0);
        refused(empty, "duel(1, 1, 0)", x -> x.duel(1, 1, 0), -1);
        refused(empty, "duel(0, 1, 0)", x -> x.duel(0, 1, 0), -1);
        refused(empty, "planks(0)", x -> x.planks(0), -2);
        refused(empty, "hush(0, 0)", x -> x.hush(0, 0), -1);
        refused(empty, "breaks(0, 0)", x -> x.breaks(0, 0), -2);
        refused(empty, "lies(0)", x -> x.lies(0), -1);
        refused(empty, "sight(1, 0, 0, 0, 99)", x -> x.sight(1, 0, 0, 0, 99), -1);
        refused(empty, "seen(1, 0, true)", x -> x.seen(1, 0, true), -1);
        refused(empty, "untell(0)", x -> x.untell(0) ? 1 : 0, 0);
        refused(empty, "asked(3, 0)", x -> x.asked(3, 0), 0);
        refused(empty, "sure(1, 0, 0)", x -> x.sure(1, 0, 0), -1);
        refused(empty, "back(0)", x -> x.back(0), -1);
        refused(empty, "end(0)", x -> x.end(0), 0);
        IceTunes x = new IceTunes();
        due.is("a silence over no CELLS", x.hold(20), 0);
        due.is("is an ACT", x.about(6), 1);
        due.is("has BARS", x.image(0), 20);
    }

    // "(Below all is asked from what is now, and nothing is played ..)"
    private void nothingIsPlayed() {
        refused("duel(7, 3, 0)", x -> Math.min(0, x.duel(7, 3, 0)), 0);
        refused("duel(7, 3, 1)", x -> Math.min(0, x.duel(7, 3, 1)), 0);
        refused("hush(0, 0)", x -> Math.min(0, x.hush(0, 0)), 0);
        refused("hush(0, 1)", x -> Math.min(0, x.hush(0, 1)), 0);
        refused("breaks(0, -9)", x -> Math.min(0, x.breaks(0, -9)), 0);
        refused("sure(2, 0, 6)", x -> Math.min(-2, x.sure(2, 0, 6)), -2);
        onlyLies("order(7)", x -> x.order(7));
        onlyLies("planks(0)", x -> x.planks(0));
        onlyLies("asked(3, 6)", x -> x.asked(3, 6));
        refused(() -> late(0), "breaks(2, 0) behind 2,000 BARS", x -> Math.max(-1, x.breaks(2, 0)), -1);
        refused(() -> late(0), "hush(2, 0) behind 2,000 BARS", x -> Math.min(0, x.hush(2, 0)), 0);
    }

    private void onlyLies(String call, Call c) {
        IceTunes without = rich();
        IceTunes with = rich();
        due.is(call, c.on(with) >= 0, true);
        due.same("behind " + call + " the rest", Look.faults(with) + Look.rest(with), Look.faults(without) + Look.rest(without));
    }
}
