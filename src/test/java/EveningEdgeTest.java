/** An EVENING at its boundaries: what pond() begins anew, 2,000 BARS, 40 ACTS, who went IN, BOXES, what is counted. */
public final class EveningEdgeTest {
    private static final String TEXT = "pond 2 by 1;ice 30;tune a bars 1 1;tune b bars 12 0;silence 2;skater s weight 3 at 0 0 east west;skater t weight 2 at 1 0;";

    private final Due due = new Due();

    public static void main(String[] args) {
        EveningEdgeTest test = new EveningEdgeTest();
        test.bytesHighestFirst();
        test.endKeepsTheFirst();
        test.pondBeginsAnew();
        test.skaterWhoIsUp();
        test.skaterWhoWentIn();
        test.skaterInAtTheFirstAndLastBeat();
        test.upBehindPlayAndHold();
        test.bars2000();
        test.holdOfNothing();
        test.latestThatWasNot();
        test.redoTillAnotherAct();
        test.fortyActs();
        test.undoneAreKeptToo();
        test.undoBringsUp();
        test.threeBoxes();
        test.boxesAreKept();
        test.backKeepsNoActs();
        test.backLeavesTheRest();
        test.countsOfAbout();
        test.due.end();
    }

    // "Twenty bytes come behind those on the TAPE, of each number the highest first"
    private void bytesHighestFirst() {
        IceTunes x = new IceTunes();
        due.is("feed", x.feed(0x706f6e64, 0x20352062, 0x7920343b, 0x69636520, 0x3937203b), 20);
        due.is("behind those", x.feed(0x63656c6c, 0x20342033, 0x20696365, 0x20203420, 0x3b202020), 40);
        due.is("pond 5 by 4", x.pond(), 20);
        due.is("ice 97", x.ice(0, 0), 97);
        due.is("cell 4 3 ice 4", x.ice(4, 3), 4);
        x.feed(-1, 0, 0, 0, 0);
        due.is("byte 255 is no TOKEN", x.pond(), -1);
        due.is("at 0", x.fault(0) * 10 + x.fault(1), 10);
        x.end(0);
        x.feed(0x20202020, 0x20202020, 0x20202020, 0x20202020, 0x20202080);
        due.is("byte 128 is none", x.pond(), -1);
        due.is("at 19", x.fault(0) * 100 + x.fault(1), 119);
    }

    // "The TAPE has its first n bytes"
    private void endKeepsTheFirst() {
        IceTunes x = new IceTunes();
        x.feed(0x706f6e64, 0x20312062, 0x7920313b, 0x3b3b3b3b, 0x3b3b3b3b);
        due.is("end(20) of 20", x.end(20), 20);
        due.is("end(13)", x.end(13), 13);
        due.is("end(14) of 13", x.end(14), -1);
        due.is("13 bytes are a FAULT", x.pond(), -1);
        due.is("at 12", x.fault(1), 12);
        due.is("end(12)", x.end(12), 12);
        due.is("12 bytes are a POND", x.pond(), 1);
        due.is("end(0) of none", x.end(0), 0);
        due.is("end(1) of none", x.end(1), -1);
    }

    // "the EVENING begins, no ACTS are kept, SIGHTS are none, nothing lies there, BOXES are empty then; the TIME stays"
    private void pondBeginsAnew() {
        IceTunes x = Due.told(TEXT);
        x.play(0);
        x.play(1);
        x.undo();
        x.image(0);
        x.image(1);
        x.image(2);
        x.later(77);
        x.sight(1, 0, 0, 0, 99);
        x.seen(1, 0, true);
        x.order(3);
        due.is("the same POND again", Due.tell(x, TEXT), 2);
        due.is("BARS", x.about(5), 0);
        due.is("ICE", x.ice(0, 0), 30);
        due.is("a SKATER's place", x.skater(0, 0), 0);
        due.is("to undo", x.about(6), 0);
        due.is("to redo", x.about(7), 0);
        due.is("undo()", x.undo(), false);
        due.is("redo()", x.redo(), false);
        due.is("SIGHTS", x.about(8), 0);
        due.is("untell(0)", x.untell(0), false);
        due.is("the next SIGHT's number", x.sight(1, 0, 0, 0, 99), 0);
        due.is("what lies there", x.about(12), 0);
        due.is("lies(0)", x.lies(0), -1);
        due.is("BOX 0", x.back(0), -1);
        due.is("BOX 1", x.back(1), -1);
        due.is("BOX 2", x.back(2), -1);
        due.is("the TIME", x.about(9), 77);
        due.is("the TAPE", x.about(10), 0);
        due.is("BOX 0 anew", x.image(0), 0);
        Due.tell(x, "pond 1 by 1;ice 0;skater s weight 1 at 0 0;");
        x.hold(1);
        x.image(0);
        x.back(0);
        due.is("IN, by an image", x.about(13), 0);
        Due.tell(x, "pond 1 by 1;skater s weight 1 at 0 0;");
        due.is("UP in the next POND", x.about(13) * 10 + x.skater(0, 2), 11);
        due.is("with his own", x.load(0, 0), 1);
    }

    // "3 to 5: NONE if he is UP"
    private void skaterWhoIsUp() {
        IceTunes x = Due.told(TEXT);
        x.play(1);
        due.is("2: UP", x.skater(0, 2), 1);
        for (int what = 3; what <= 5; what++) {
            due.is(what + ": NONE", x.skater(0, what), -1);
        }
    }

    // "(where he is, or went IN) .. the BAR of the EVENING (from 0) in which he went IN, its TUNE (NONE: silence), its beat"
    private void skaterWhoWentIn() {
        IceTunes x = Due.told("pond 3 by 2;ice 9;cell 2 1 ice 0;tune a bars 2 0;tune b bars 3 0;skater s weight 3 at 0 1 stay stay stay east east;");
        x.play(0);
        due.is("UP still", x.play(1), 0);
        due.is("x", x.skater(0, 0), 2);
        due.is("y", x.skater(0, 1), 1);
        due.is("IN", x.skater(0, 2), 0);
        due.is("BAR", x.skater(0, 3), 4);
        due.is("TUNE", x.skater(0, 4), 1);
        due.is("beat", x.skater(0, 5), 2);
        x.hold(4);
        x.play(0);
        due.is("BAR still", x.skater(0, 3), 4);
        due.is("TUNE still", x.skater(0, 4), 1);
        due.is("beat still", x.skater(0, 5), 2);
        x = Due.told("pond 1 by 1;ice 0;silence (beat = 3) * (0 - 9) + (beat < 3) * 9;tune a bars 2 9;skater s weight 3 at 0 0;");
        x.play(0);
        x.hold(2);
        due.is("in silence", x.hold(20), 1);
        Due.tell(x, "pond 1 by 1;ice 7;silence (beat = 3) * (0 - 9);tune a bars 2 0;skater s weight 3 at 0 0;");
        x.play(0);
        x.hold(2);
        due.is("in silence", x.hold(20), 0);
        due.is("BAR", x.skater(0, 3), 7);
        due.is("no TUNE", x.skater(0, 4), -1);
        due.is("beat", x.skater(0, 5), 3);
    }

    private void skaterInAtTheFirstAndLastBeat() {
        IceTunes x = Due.told("pond 1 by 1;ice 2;tune a bars 12 0 - (beat = 0);skater s weight 2 at 0 0;");
        due.is("first beat", x.play(0), 0);
        due.is("BAR 0", x.skater(0, 3), 0);
        due.is("TUNE 0", x.skater(0, 4), 0);
        due.is("beat 0", x.skater(0, 5), 0);
        x = Due.told("pond 1 by 1;ice 2;tune a bars 12 0 - (beat = 11);skater s weight 2 at 0 0;");
        due.is("last beat", x.play(0), 0);
        due.is("BAR 11", x.skater(0, 3), 11);
        due.is("beat 11", x.skater(0, 5), 11);
    }

    // "how many are UP then"
    private void upBehindPlayAndHold() {
        IceTunes x = Due.told("pond 3 by 1;cell 0 0 ice 1;cell 1 0 ice 2;tune a bars 1 0;silence 0 - 1;skater s weight 1 at 0 0;skater t weight 1 at 1 0;skater u weight 1 at 2 0;");
        due.is("three", x.play(0), 3);
        due.is("two", x.hold(1), 2);
        due.is("one", x.hold(1), 1);
        due.is("UP by about", x.about(13), 1);
        due.is("none", x.hold(20) + x.hold(20) + x.hold(20), 2);
        due.is("none UP", x.about(13), 0);
        due.is("play with none UP", x.play(0), 0);
    }

    private static IceTunes at(int bars) {
        IceTunes x = Due.told(TEXT);
        for (int i = 0; i < bars / 20; i++) {
            x.hold(20);
        }
        if (bars % 20 != 0) {
            x.hold(bars % 20);
        }
        return x;
    }

    // "NONE .. if there would be more than 2,000 BARS"
    private void bars2000() {
        due.is("12 behind 1,988", at(1988).play(1), 2);
        due.is("12 behind 1,989", at(1989).play(1), -1);
        due.is("1 behind 1,999", at(1999).play(0), 2);
        due.is("1 behind 2,000", at(2000).play(0), -1);
        due.is("20 behind 1,980", at(1980).hold(20), 2);
        due.is("20 behind 1,981", at(1981).hold(20), -1);
        due.is("1 behind 1,999: silence", at(1999).hold(1), 2);
        due.is("1 behind 2,000: silence", at(2000).hold(1), -1);
        IceTunes x = at(2000);
        due.is("the BAR behind all", x.about(5), 2000);
        due.is("image", x.image(0), 2000);
        due.is("undo", x.undo(), true);
        due.is("BARS then", x.about(5), 1980);
        due.is("other 20", x.hold(20), 2);
        due.is("back", x.back(0), 2000);
        due.is("none more", x.hold(1), -1);
        due.is("of no BARS", x.hold(0), 2);
    }

    // "A silence of so many BARS (0 .. 20) .. (An ACT.)"
    private void holdOfNothing() {
        IceTunes x = Due.told(TEXT);
        x.play(0);
        x.undo();
        due.is("hold(0)", x.hold(0), 2);
        due.is("no BAR", x.about(5), 0);
        due.is("an ACT", x.about(6), 1);
        due.is("another ACT: no redo", x.redo(), false);
        due.is("undone", x.undo(), true);
        due.is("redone", x.redo(), true);
        due.is("hold(20)", x.hold(20), 2);
        due.is("20 BARS", x.about(5), 20);
        due.is("ICE", x.ice(0, 0), 70);
    }

    // "UNDO takes back the latest ACT that was not, REDO does that again which was taken back last"
    private void latestThatWasNot() {
        IceTunes x = Due.told(TEXT);
        x.hold(1);
        x.hold(2);
        x.hold(3);
        int[] bars = {3, 1, 0};
        for (int i = 0; i < 3; i++) {
            due.is("undo", x.undo(), true);
            due.is("BARS", x.about(5), bars[i]);
            due.is("to undo", x.about(6), 2 - i);
            due.is("to redo", x.about(7), i + 1);
        }
        due.is("no more", x.undo(), false);
        int[] again = {1, 3, 6};
        for (int i = 0; i < 3; i++) {
            due.is("redo", x.redo(), true);
            due.is("BARS", x.about(5), again[i]);
            due.is("ICE", x.ice(0, 0), 30 + 2 * again[i]);
        }
        due.is("no more", x.redo(), false);
        x.undo();
        x.redo();
        x.undo();
        due.is("the same one", x.about(5), 3);
    }

    // "(till another ACT)"
    private void redoTillAnotherAct() {
        IceTunes x = Due.told(TEXT);
        x.hold(1);
        x.hold(2);
        x.undo();
        x.undo();
        due.is("another", x.play(0), 2);
        due.is("to redo", x.about(7), 0);
        due.is("redo", x.redo(), false);
        due.is("to undo", x.about(6), 1);
        x.undo();
        due.is("redo of the other", x.redo(), true);
        due.is("its ICE", x.ice(0, 0), 31);
        x.undo();
        x.order(3);
        x.duel(3, 2, 0);
        x.planks(0);
        x.hush(0, 0);
        x.breaks(0, 0);
        x.asked(2, 0);
        x.image(1);
        due.is("asking is no ACT", x.redo(), true);
    }

    // "40 at most are kept, the oldest go"
    private void fortyActs() {
        for (int acts : new int[] {39, 40, 41, 42, 81, 82, 83, 123}) {
            IceTunes x = Due.told(TEXT);
            for (int i = 0; i < acts; i++) {
                x.hold(i % 3);
            }
            int bars = x.about(5);
            int kept = Math.min(40, acts);
            due.is(acts + " ACTS: kept", x.about(6), kept);
            int undone = 0;
            while (undone <= 40 && x.undo()) {
                undone++;
            }
            due.is(acts + " ACTS: undone", undone, kept);
            int gone = acts - kept;
            due.is(acts + " ACTS: BARS of the oldest", x.about(5), gone / 3 * 3 + (gone % 3 == 2 ? 1 : 0));
            due.is(acts + " ACTS: to redo", x.about(7), kept);
            while (undone > 0 && x.redo()) {
                undone--;
            }
            due.is(acts + " ACTS: redone", undone, 0);
            due.is(acts + " ACTS: no more", x.redo(), false);
            due.is(acts + " ACTS: BARS again", x.about(5), bars);
        }
    }

    private void undoneAreKeptToo() {
        IceTunes x = Due.told(TEXT);
        for (int i = 0; i < 40; i++) {
            x.hold(1);
        }
        for (int i = 0; i < 10; i++) {
            x.undo();
        }
        due.is("30 and 10", x.about(6) * 100 + x.about(7), 3010);
        x.hold(5);
        due.is("31 and none", x.about(6) * 100 + x.about(7), 3100);
        for (int i = 0; i < 9; i++) {
            x.hold(0);
        }
        due.is("40 again", x.about(6), 40);
        x.hold(0);
        due.is("40 still", x.about(6), 40);
        int undone = 0;
        while (undone <= 40 && x.undo()) {
            undone++;
        }
        due.is("40 undone", undone, 40);
        due.is("the oldest went", x.about(5), 1);
    }

    private void undoBringsUp() {
        IceTunes x = Due.told("pond 2 by 1;ice 3;tune a bars 2 0 - 1;skater s weight 2 at 0 0 east;skater t weight 1 at 0 0;");
        x.hold(0);
        due.is("one is left", x.play(0), 1);
        due.is("IN", x.skater(0, 3) * 10 + x.skater(0, 5), 11);
        x.undo();
        due.is("UP", x.skater(0, 2), 1);
        due.is("where he was", x.skater(0, 0), 0);
        due.is("LOAD", x.load(0, 0), 3);
        due.is("ICE", x.ice(1, 0), 3);
        due.is("NONE", x.skater(0, 3) + x.skater(0, 4) + x.skater(0, 5), -3);
        x.redo();
        due.is("IN again", x.skater(0, 3) * 10 + x.skater(0, 5), 11);
        due.is("where he went IN", x.skater(0, 0), 1);
        due.is("UP then", x.about(13), 1);
    }

    // "The EVENING is kept in a BOX 0 .. 2: how many BARS it has"
    private void threeBoxes() {
        IceTunes x = Due.told(TEXT);
        for (int box = 0; box < 3; box++) {
            due.is("an empty BOX", x.back(box), -1);
            due.is("image(" + box + ")", x.image(box), 5 * box);
            x.hold(5);
        }
        due.is("image(3)", x.image(3), -1);
        for (int box = 2; box >= 0; box--) {
            due.is("back(" + box + ")", x.back(box), 5 * box);
            due.is("BARS", x.about(5), 5 * box);
            due.is("ICE", x.ice(1, 0), 30 + 10 * box);
        }
    }

    // "images gone on from": an image stays as it was kept
    private void boxesAreKept() {
        IceTunes x = Due.told(TEXT);
        x.hold(1);
        x.image(1);
        x.play(1);
        due.is("back", x.back(1), 1);
        x.hold(7);
        due.is("back again", x.back(1), 1);
        due.is("ICE", x.ice(0, 0), 32);
        due.is("steps", x.skater(0, 0), 1);
        x.hold(1);
        due.is("kept over another", x.image(1), 2);
        x.hold(9);
        due.is("the newer one", x.back(1), 2);
        due.is("its ICE", x.ice(0, 0), 34);
    }

    // "All is as it was kept (no ACTS are kept then)"
    private void backKeepsNoActs() {
        IceTunes x = Due.told(TEXT);
        x.hold(1);
        x.image(0);
        x.hold(2);
        x.hold(3);
        x.undo();
        due.is("back", x.back(0), 1);
        due.is("none", x.about(6) + x.about(7), 0);
        due.is("undo", x.undo(), false);
        due.is("redo", x.redo(), false);
        x.hold(4);
        due.is("one", x.about(6), 1);
        due.is("undo", x.undo(), true);
        due.is("BARS", x.about(5), 1);
        due.is("no more", x.undo(), false);
        for (int i = 0; i < 45; i++) {
            x.hold(1);
        }
        x.back(0);
        due.is("none of 40", x.about(6), 0);
        due.is("1 BAR", x.about(5), 1);
    }

    private void backLeavesTheRest() {
        IceTunes x = Due.told(TEXT);
        x.image(0);
        x.later(9);
        x.sight(1, 0, 0, 0, 99);
        x.order(3);
        x.feed(0, 0, 0, 0, 0);
        x.play(0);
        x.back(0);
        due.is("SIGHTS", x.about(8), 1);
        due.is("the TIME", x.about(9), 9);
        due.is("the TAPE", x.about(10), 20);
        due.is("what lies there", x.about(12), 2);
        due.is("the BOX", x.back(0), 0);
    }

    // Promise 27, each number
    private void countsOfAbout() {
        IceTunes x = Due.told("pond 4 by 3;plank at 1 1;plank at 2 2;plank at 3 0;tune a bars 2 (ice) - 99;tune b bars 1 0;skater s weight 9 at 0 0;skater t weight 9 at 1 1;skater u weight 9 at 2 2;");
        due.is("0: across", x.about(0), 4);
        due.is("1: down", x.about(1), 3);
        due.is("2: TUNES", x.about(2), 2);
        due.is("3: SKATERS", x.about(3), 3);
        due.is("4: planks", x.about(4), 3);
        x.play(0);
        x.play(1);
        x.hold(5);
        x.undo();
        due.is("5: BARS that were", x.about(5), 3);
        due.is("6: ACTS to undo", x.about(6), 2);
        due.is("7: to redo", x.about(7), 1);
        x.sight(1, 0, 0, 0, 0);
        x.seen(36, 0, true);
        x.untell(0);
        due.is("8: SIGHTS", x.about(8), 2);
        x.later(1000);
        due.is("9: the TIME", x.about(9), 1000);
        x.feed(0, 0, 0, 0, 0);
        x.end(17);
        due.is("10: bytes on the TAPE", x.about(10), 17);
        due.is("11: units", x.about(11), 4);
        x.asked(3, 0);
        due.is("12: nothing lies behind 0 rows", x.about(12), 0);
        x.asked(3, -1);
        due.is("12: numbers that lie there", x.about(12), 3);
        due.is("13: UP", x.about(13), 2);
        due.is("-1", x.about(-1), -1);
        due.is("14", x.about(14), -1);
    }
}
