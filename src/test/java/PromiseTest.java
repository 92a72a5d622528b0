/** Each promise by hand: ordinary calls, the edges that the document names, wrong inputs. */
public final class PromiseTest {
    private static final int LOW = Integer.MIN_VALUE;
    private static final int HIGH = Integer.MAX_VALUE;
    private static final String BAND = "pond 2 by 1;ice 10;tune w bars 2 0 - 4;tune m bars 1 0 - load;tune h bars 1 5;silence 1;"
        + "skater a weight 3 at 0 0 east west;skater b weight 2 at 1 0;";

    private final Due due = new Due();

    public static void main(String[] args) {
        PromiseTest test = new PromiseTest();
        test.newObject();
        test.feedAndEnd();
        test.pondAndWhatItClears();
        test.faultOfTokens();
        test.faultOfLines();
        test.faultOfFormulas();
        test.limitsThatStand();
        test.iceByFormulas();
        test.iceAtItsEnds();
        test.loadAndSteps();
        test.skaterWhoWentIn();
        test.playAndHold();
        test.undoAndRedo();
        test.orderOfTunes();
        test.duelOfTunes();
        test.planksForTunes();
        test.hushAhead();
        test.breaksByThickness();
        test.whatLies();
        test.sightsAndTimes();
        test.askedAndSure();
        test.imageAndBack();
        test.aboutAll();
        test.due.end();
    }

    // Promise 1
    private void newObject() {
        IceTunes x = new IceTunes();
        for (int what = 0; what <= 13; what++) {
            due.is("new about(" + what + ")", x.about(what), 0);
        }
        due.is("new ice", x.ice(0, 0), -1);
        due.is("new load", x.load(0, 0), -1);
        due.is("new skater", x.skater(0, 0), -2);
        due.is("new fault(0)", x.fault(0), 0);
        due.is("new fault(1)", x.fault(1), IceTunes.NONE);
        due.is("new play", x.play(0), -1);
        due.is("new undo", x.undo(), false);
        due.is("new redo", x.redo(), false);
        due.is("new pond", x.pond(), 0);
        due.is("new back", x.back(0), -1);
        due.is("new asked", x.asked(3, 0), 0);
        due.is("new hold", x.hold(20), 0);
    }

    // Promises 2 and 3
    private void feedAndEnd() {
        IceTunes x = new IceTunes();
        for (int i = 1; i <= 79; i++) {
            due.is("feed", x.feed(0, 0, 0, 0, 0), 20 * i);
        }
        due.is("end(1581)", x.end(1581), -1);
        due.is("end(1571)", x.end(1571), 1571);
        due.is("feed to 1591", x.feed(1, 2, 3, 4, 5), 1591);
        due.is("feed over 1600", x.feed(1, 2, 3, 4, 5), -1);
        due.is("nothing came", x.about(10), 1591);
        due.is("end(1580)", x.end(1580), 1580);
        due.is("feed to 1600", x.feed(-1, 0, 0, 0, 0), 1600);
        due.is("feed full", x.feed(0, 0, 0, 0, 0), -1);
        due.is("end(-1)", x.end(-1), -1);
        due.is("end lowest", x.end(LOW), -1);
        due.is("end highest", x.end(HIGH), -1);
        due.is("end(1600)", x.end(1600), 1600);
        due.is("end(0)", x.end(0), 0);
        due.is("end(1) of none", x.end(1), -1);
        due.is("bytes, highest first", x.feed(0x706f6e64, 0x20312062, 0x7920313b, 0x69636520, 0x373b2020), 20);
        due.is("its pond", x.pond(), 1);
        due.is("its ice", x.ice(0, 0), 7);
    }

    // Promise 4
    private void pondAndWhatItClears() {
        IceTunes x = Due.told(BAND);
        x.play(0);
        x.undo();
        x.play(2);
        x.image(0);
        x.later(5);
        x.sight(1, 0, 0, 1, 2);
        x.order(7);
        due.is("a FAULT", Due.tell(x, "pond 1 by 1;;"), -1);
        due.is("fault stays: across", x.about(0), 2);
        due.is("fault stays: acts", x.about(6), 1);
        due.is("fault stays: sights", x.about(8), 1);
        due.is("fault stays: lies", x.about(12), 3);
        due.is("fault stays: tape", x.about(10), 13);
        due.is("fault stays: units", x.about(11), 6);
        due.is("fault stays: ice", x.ice(0, 0), 15);
        due.is("fault stays: back", x.back(0), 1);
        due.is("a new pond", Due.tell(x, "pond 5 by 4;"), 20);
        due.is("tape is empty", x.about(10), 0);
        due.is("evening begins", x.about(5), 0);
        due.is("no acts", x.undo() || x.redo(), false);
        due.is("no sights", x.about(8), 0);
        due.is("nothing lies", x.about(12), 0);
        due.is("no tunes", x.about(2), 0);
        due.is("no skaters", x.about(3), 0);
        due.is("no units", x.about(11), 0);
        due.is("box empty", x.back(0), -1);
        due.is("time stays", x.about(9), 5);
        due.is("usual ice", x.ice(4, 3), 50);
        due.is("empty text", x.pond(), 0);
        due.is("no cells", x.ice(0, 0), -1);
        due.is("blanks alone", Due.tell(x, " \n \n"), 0);
        due.is("cell ahead of ice", Due.tell(x, "pond 2 by 1;cell 1 0 ice 4;ice 9;"), 2);
        due.is("ice of all", x.ice(0, 0), 9);
        due.is("ice of a cell", x.ice(1, 0), 4);
    }

    private void fault(String text, int fault, int place) {
        IceTunes x = new IceTunes();
        int cells = Due.tell(x, text);
        due.is("pond() of: " + text, cells < 0, fault != 0);
        due.is("fault(0) of: " + text, x.fault(0), fault);
        due.is("fault(1) of: " + text, x.fault(1), place);
        due.is("fault(2)", x.fault(2), -1);
        due.is("fault(-1)", x.fault(-1), -1);
    }

    // Promise 5
    private void faultOfTokens() {
        fault("", 0, -1);
        fault("A", 1, 0);
        fault("pond 1\tby 1;", 1, 6);
        fault("pond 1 by 1; \u00e9", 1, 13);
        fault("pond 1 by 1; \u00ff", 1, 13);
        fault("pond 1 by 1;\u0000", 1, 12);
        fault("pond 1 by 1;tune abcdefghi bars 1 1;", 1, 17);
        fault("pond 1 by 1;tune abcdefgh bars 1 1;", 0, -1);
        fault("pond 1by 1;", 1, 5);
        fault("pond 6by 1;", 1, 5);
        fault("pond1 by1;", 0, -1);
        fault("pond 00001 by 1;", 1, 5);
        fault("pond 0001 by 0005;", 0, -1);
        fault("pond\n1\nby\n1\n;", 0, -1);
        fault("pond 1 by 1;tune a bars 1 9999;", 0, -1);
        fault("pond 1 by 1;tune a bars 1 10000;", 1, 26);
        fault("pond 1 by 1;tune a bars 1 1<=2;", 2, 28);
        fault("pond 1 by 1;tune a bars 1not 1;", 1, 24);
        fault("pond 1 by 1;tune a1 bars 1 1;", 2, 18);
    }

    private void faultOfLines() {
        fault("ice 1", 2, 0);
        fault("pond 1 by 1", 2, 11);
        fault("pond 1 by 1  ", 2, 13);
        fault("pond", 2, 4);
        fault("pond 0 by 1;", 4, 5);
        fault("pond 6", 4, 5);
        fault("pond 5 by 6;", 4, 10);
        fault("pond x by 1;", 2, 5);
        fault("pond 1 by 1;pond 1 by 1;", 2, 12);
        fault("pond 1 by 1;;", 2, 12);
        fault("pond 1 by 1;ponds", 2, 12);
        fault("pond 1 by 1;ice 100;", 4, 16);
        fault("pond 1 by 1;ice 99;ice 1;", 2, 19);
        fault("pond 2 by 1;cell 2 0 ice 1;", 4, 17);
        fault("pond 2 by 1;cell 1 1 ice 1;", 4, 19);
        fault("pond 2 by 1;cell 1 0 ice 100;", 4, 25);
        fault("pond 2 by 1;cell 1 0 ice 1;cell 0 0 ice 1;cell 1 0 ice 2;", 3, 49);
        fault("pond 2 by 1;cell 1 0 1;", 2, 21);
        fault("pond 2 by 1;plank at 1 0;cell 1 0 ice 1;plank at 1 0;", 3, 51);
        fault("pond 2 by 1;plank 1 0;", 2, 18);
        fault("pond 1 by 1;tune a bars 0 1;", 4, 24);
        fault("pond 1 by 1;tune a bars 13 1;", 4, 24);
        fault("pond 1 by 1;tune bars bars 1 1;", 2, 17);
        fault("pond 1 by 1;tune a bars 1 1;tune a bars 1 1;", 3, 33);
        fault("pond 1 by 1;tune a bars 1 1;tune ab bars 1 1;skater a weight 1 at 0 0;", 0, -1);
        fault("pond 1 by 1;skater a weight 1 at 0 0;skater a weight 1 at 0 0;", 3, 44);
        fault("pond 1 by 1;skater a weight 0 at 0 0;", 4, 28);
        fault("pond 1 by 1;skater a weight 100 at 0 0;", 4, 28);
        fault("pond 1 by 1;skater a weight 1 at 1 0;", 4, 33);
        fault("pond 1 by 1;skater a weight 1 at 0 1;", 4, 35);
        fault("pond 1 by 1;skater a weight 1 at 0 0;skater b weight 1 at 0 0;", 0, -1);
        fault("pond 1 by 1;skater a weight 1 at 0 0 up;", 2, 37);
        fault("pond 1 by 1;skater a weight 1 at 0 0 stay stay stay stay stay stay stay stay west;", 2, 77);
        fault("pond 1 by 1;silence 1;silence 1;", 2, 22);
        fault("pond 1 by 1;tune ab bars 1 1;tune ac bars 1 1;tune az bars 1 1;tune oce bars 1 1;tune bb bars 1 1;", 0, -1);
        fault("pond 1 by 1;tune ab bars 1 1;tune ac bars 1 1;tune ac bars 1 1;", 3, 51);
        fault("pond 1 by 1;silence;", 2, 19);
        for (String word : new String[] {"pond", "by", "ice", "cell", "plank", "at", "tune", "bars", "silence", "skater", "weight", "stay", "north",
            "east", "south", "west", "or", "and", "not", "beat", "load", "around"}) {
            fault("pond 1 by 1;skater " + word + " weight 1 at 0 0;", 2, 19);
            fault("pond 1 by 1;tune " + word + "s bars 1 1;", 0, -1);
        }
        StringBuilder tunes = new StringBuilder("pond 1 by 1;");
        StringBuilder skaters = new StringBuilder("pond 1 by 1;");
        for (char c = 'a'; c < 'g'; c++) {
            tunes.append("tune ").append(c).append(" bars 1 1;");
            skaters.append("skater ").append(c).append(" weight 1 at 0 0;");
        }
        fault(tunes.toString(), 0, -1);
        fault(tunes + "tune g bars 1 1;", 2, tunes.length());
        fault(skaters.toString(), 0, -1);
        fault(skaters + "skater a weight 1 at 0 0;", 2, skaters.length());
    }

    private void faultOfFormulas() {
        String head = "pond 1 by 1;silence ";
        int at = head.length();
        fault(head + "1 < 2 < 3;", 2, at + 6);
        fault(head + "1 + not 2;", 2, at + 4);
        fault(head + "not 1 + 2 and not 3;", 0, -1);
        fault(head + "- 1;", 2, at);
        fault(head + "(1;", 2, at + 2);
        fault(head + "1);", 2, at + 1);
        fault(head + "();", 2, at + 1);
        fault(head + "1 2;", 2, at + 2);
        fault(head + "1 or;", 2, at + 4);
        fault(head + "weight;", 2, at);
        fault(head + "((((((( 1 )))))));", 0, -1);
        fault(head + "(((((((( 1 ))))))));", 2, at + 7);
        fault(head + "not not not not not not not 1;", 0, -1);
        fault(head + "not not not not not not not not 1;", 2, at + 28);
        fault(head + "not ( not ( not ( not ( 1 ))));", 2, at + 22);
        fault(head + "not ( not ( not ( not 1 )));", 0, -1);
        fault(head + "(((((((1)))))))+(((((((1)))))));", 0, -1);
        StringBuilder many = new StringBuilder("1");
        for (int i = 1; i < 30; i++) {
            many.append("+1");
        }
        fault(head + many + ";", 0, -1);
        fault(head + many + "+1;", 2, at + 60);
        fault(head + many + "+(1);", 2, at + 60);
        fault(head + "(" + many + ");", 2, at + 59);
        fault(head + many + "+;", 2, at + 60);
        fault(head + many + "+A;", 1, at + 60);
        String all = head + many + ";tune a bars 1 " + many + ";tune b bars 1 " + many + ";";
        fault(all, 0, -1);
        fault(all + "tune c bars 1 1;", 2, all.length() + 14);
    }

    private void limitsThatStand() {
        String blanks = " ".repeat(1588);
        fault(blanks + "pond 1 by 1;", 0, -1);
        fault(blanks + "pond 1 by 11", 4, 1598);
        fault(blanks + "pond 1 by 1 ", 2, 1600);
        StringBuilder nots = new StringBuilder("pond 5 by 5;");
        for (int t = 0; t < 2; t++) {
            nots.append("tune ").append((char) ('a' + t)).append(" bars 12 ");
            for (int u = 0; u < 22; u++) {
                nots.append(u == 0 ? "" : " or ").append("not not not not not not not 0");
            }
            nots.append(";");
        }
        IceTunes x = new IceTunes();
        due.is("a text of nots, " + nots.length() + " bytes", Due.tell(x, nots.toString()), 25);
        x.play(1);
        due.is("odd nots of 0 are 1", x.ice(4, 4), 62);
    }

    private int silenceBy(String formula, int ice) {
        IceTunes x = Due.told("pond 3 by 3;ice 10;cell 1 1 ice " + ice + ";silence " + formula + ";skater a weight 5 at 1 1;");
        x.hold(1);
        return x.ice(1, 1) - ice;
    }

    // Promise 6, and how a BAR works the formulas out
    private void iceByFormulas() {
        due.is("7 / 2", silenceBy("7 / 2", 50), 3);
        due.is("(0 - 7) / 2", silenceBy("(0 - 7) / 2", 50), -3);
        due.is("(0 - 7) % 4", silenceBy("(0 - 7) % 4", 50), -3);
        due.is("7 / 0 + 1", silenceBy("7 / 0 + 1", 50), 1);
        due.is("7 % 0 + 1", silenceBy("7 % 0 + 1", 50), 1);
        due.is("2 + 3 * 4", silenceBy("2 + 3 * 4", 50), 14);
        due.is("20 - 5 - 3", silenceBy("20 - 5 - 3", 50), 12);
        due.is("(2 + 3) * 4", silenceBy("(2 + 3) * 4", 50), 20);
        due.is("100 / 7 * 2 % 5", silenceBy("100 / 7 * 2 % 5", 50), 3);
        due.is("ice / 5", silenceBy("ice / 5", 50), 10);
        due.is("load", silenceBy("load", 50), 5);
        due.is("around", silenceBy("around", 50), 40);
        due.is("3 < 4", silenceBy("3 < 4", 50), 1);
        due.is("3 > 4", silenceBy("3 > 4", 50), 0);
        due.is("4 = 4", silenceBy("4 = 4", 50), 1);
        due.is("4 < 4", silenceBy("4 < 4", 50), 0);
        due.is("4 > 4", silenceBy("4 > 4", 50), 0);
        due.is("0 or 0", silenceBy("0 or 0", 50), 0);
        due.is("5 and 7", silenceBy("5 and 7", 50), 1);
        due.is("5 and 0", silenceBy("5 and 0", 50), 0);
        due.is("0 or 9", silenceBy("0 or 9", 50), 1);
        due.is("1 or 1 and 0", silenceBy("1 or 1 and 0", 50), 1);
        due.is("not 5", silenceBy("not 5", 50), 0);
        due.is("not 5 < 4", silenceBy("not 5 < 4", 50), 1);
        due.is("(not 0) * 6", silenceBy("(not 0) * 6", 50), 6);
        due.is("9999 * 9999 * 9999 wraps to less", silenceBy("9999 * 9999 * 9999 < 0", 50), 9999 * 9999 * 9999 < 0 ? 1 : 0);
        due.is("46341 * 46341 wraps", silenceBy("(9999*4+6345)*(9999*4+6345) < 0", 50), 1);
        String lowest = "(0 - 8192*8192*32)";
        due.is("the lowest by -1 is the lowest", silenceBy(lowest + " / (0 - 1) < 0", 50), 1);
        due.is("its rest", silenceBy(lowest + " % (0 - 1)", 50), 0);
        IceTunes x = Due.told("pond 2 by 2;cell 1 1 ice 4;tune a bars 1 around / 10 - ice;");
        x.play(0);
        due.is("all at once (0, 0)", x.ice(0, 0), 10);
        due.is("all at once (1, 0)", x.ice(1, 0), 5);
        due.is("all at once (1, 1)", x.ice(1, 1), 10);
    }

    private void iceAtItsEnds() {
        due.is("99 at most", silenceBy("9999", 50), 49);
        due.is("0 at least, and he breaks in", silenceBy("0 - 9999", 50), -50);
        due.is("as much as an int holds", silenceBy("8192*8192*16*2 - 1", 50), 49);
        IceTunes x = Due.told("pond 5 by 3;cell 4 2 ice 0;cell 0 0 ice 99;");
        due.is("ice(4, 2)", x.ice(4, 2), 0);
        due.is("ice(0, 0)", x.ice(0, 0), 99);
        due.is("ice(5, 0)", x.ice(5, 0), -1);
        due.is("ice(0, 3)", x.ice(0, 3), -1);
        due.is("ice(-1, 1)", x.ice(-1, 1), -1);
        due.is("ice(1, -1)", x.ice(1, -1), -1);
        due.is("ice far", x.ice(HIGH, LOW), -1);
        due.is("load far", x.load(LOW, HIGH), -1);
        due.is("load(5, 0)", x.load(5, 0), -1);
        due.is("load(0, 3)", x.load(0, 3), -1);
    }

    // Promises 7 and 8
    private void loadAndSteps() {
        IceTunes x = Due.told("pond 3 by 3;skater a weight 9 at 1 1 north west south south east stay;skater b weight 7 at 1 1 ;");
        due.is("load together", x.load(1, 1), 16);
        int[][] way = {{1, 0}, {0, 0}, {0, 1}, {0, 2}, {1, 2}, {1, 2}, {1, 1}, {0, 1}};
        for (int[] spot : way) {
            due.is("both UP", x.hold(1), 2);
            due.is("a's x", x.skater(0, 0), spot[0]);
            due.is("a's y", x.skater(0, 1), spot[1]);
        }
        due.is("b stays", x.skater(1, 0) * 10 + x.skater(1, 1), 11);
        due.is("load of a", x.load(0, 1), 9);
        due.is("load of b", x.load(1, 1), 7);
        x = Due.told("pond 1 by 2;skater a weight 9 at 0 0 east south north west;");
        x.hold(1);
        due.is("no CELL: he stays", x.skater(0, 0), 0);
        x.hold(1);
        due.is("his second step", x.skater(0, 1), 1);
        x.hold(2);
        due.is("his fourth step", x.skater(0, 0) * 10 + x.skater(0, 1), 0);
        x.hold(0);
        due.is("no BAR, no step", x.about(5), 4);
    }

    private void skaterWhoWentIn() {
        IceTunes x = Due.told("pond 2 by 1;ice 6;tune a bars 3 0 - beat;silence 0 - 1;skater a weight 5 at 0 0 east;skater b weight 1 at 1 0;skater c weight 4 at 0 0;");
        due.is("UP: bar", x.skater(0, 3), -1);
        due.is("UP: tune", x.skater(0, 4), -1);
        due.is("UP: beat", x.skater(0, 5), -1);
        due.is("play", x.play(0), 0);
        due.is("a is IN", x.skater(0, 2), 0);
        due.is("a's x", x.skater(0, 0), 1);
        due.is("a's bar", x.skater(0, 3), 1);
        due.is("a's tune", x.skater(0, 4), 0);
        due.is("a's beat", x.skater(0, 5), 1);
        due.is("b with him", x.skater(1, 3), 1);
        due.is("c later", x.skater(2, 3), 2);
        due.is("c's beat", x.skater(2, 5), 2);
        due.is("broken ice", x.ice(1, 0), 0);
        due.is("no load of those IN", x.load(1, 0), 0);
        x = Due.told("pond 2 by 1;ice 6;silence 0 - 1;tune a bars 2 1;skater a weight 5 at 0 0 east west;");
        x.play(0);
        due.is("hold till he is IN", x.hold(5), 0);
        due.is("bar of the EVENING", x.skater(0, 3), 5);
        due.is("in silence", x.skater(0, 4), -1);
        due.is("beat of the silence", x.skater(0, 5), 3);
        due.is("where he went IN", x.skater(0, 0), 0);
        x.hold(5);
        due.is("he goes no more", x.skater(0, 0), 0);
        due.is("what 6", x.skater(0, 6), -2);
        due.is("what -1", x.skater(0, -1), -2);
        due.is("none such", x.skater(1, 0), -2);
        due.is("none below", x.skater(-1, 0), -2);
        due.is("none far", x.skater(HIGH, LOW), -2);
    }

    // Promises 9 and 10
    private void playAndHold() {
        IceTunes x = Due.told("pond 1 by 1;ice 3;plank at 0 0;tune a bars 3 0 - beat;skater s weight 9 at 0 0 north;");
        due.is("a plank holds", x.play(0), 1);
        due.is("its ice thins", x.ice(0, 0), 0);
        due.is("play(1)", x.play(1), -1);
        due.is("play(-1)", x.play(-1), -1);
        due.is("hold(21)", x.hold(21), -1);
        due.is("hold(-1)", x.hold(-1), -1);
        due.is("hold lowest", x.hold(LOW), -1);
        due.is("nothing done", x.about(5) * 10 + x.about(6), 31);
        due.is("hold(0)", x.hold(0), 1);
        due.is("an ACT", x.about(6), 2);
        x = Due.told("pond 1 by 1;tune a bars 12 1;tune b bars 1 1;skater s weight 9 at 0 0;");
        for (int i = 0; i < 99; i++) {
            x.hold(20);
        }
        due.is("hold to 1981", x.hold(1), 1);
        due.is("play to 1993", x.play(0), 1);
        due.is("play over 2000", x.play(0), -1);
        due.is("hold over 2000", x.hold(8), -1);
        due.is("hold to 1999", x.hold(6), 1);
        due.is("play to 2000", x.play(1), 1);
        x.undo();
        due.is("hold to 2000", x.hold(1), 1);
        due.is("play over", x.play(1), -1);
        due.is("hold over", x.hold(1), -1);
        due.is("hold(0) at the end", x.hold(0), 1);
        due.is("bars", x.about(5), 2000);
        due.is("asking goes further", x.breaks(0, 0), -1);
        due.is("load is no reason without silence's e", Due.tell(x, "pond 1 by 1;ice 4;skater a weight 5 at 0 0;"), 1);
        due.is("silence that does nothing breaks too", x.hold(1), 0);
        x = Due.told("pond 1 by 1;silence 5;");
        Due.tell(x, "pond 1 by 1;");
        due.is("a silence of another POND", x.hold(3), 0);
        due.is("does nothing here", x.ice(0, 0), 50);
        due.is("as heavy as thick holds", Due.tell(x, "pond 1 by 1;ice 5;skater a weight 5 at 0 0;"), 1);
        due.is("it holds", x.hold(20), 1);
    }

    // Promises 11 and 12
    private void undoAndRedo() {
        IceTunes x = Due.told(BAND);
        x.play(2);
        x.hold(1);
        x.play(0);
        due.is("ice", x.ice(1, 0), 8);
        due.is("undo", x.undo(), true);
        due.is("ice of before", x.ice(1, 0), 16);
        due.is("undo", x.undo(), true);
        due.is("two undone", x.about(7), 2);
        due.is("a wrong ACT is none", x.play(9), -1);
        due.is("redo", x.redo(), true);
        due.is("ice again", x.ice(1, 0), 16);
        due.is("another ACT", x.hold(0), 2);
        due.is("no redo now", x.redo(), false);
        due.is("acts", x.about(6), 3);
        while (x.undo()) {
            due.is("going back", x.about(6) + x.about(7), 3);
        }
        due.is("the beginning", x.ice(0, 0), 10);
        for (int i = 0; i < 45; i++) {
            x.hold(1);
        }
        due.is("40 are kept", x.about(6), 40);
        int undone = 0;
        while (undone < 50 && x.undo()) {
            undone++;
        }
        due.is("40 undone", undone, 40);
        due.is("the oldest went", x.about(5), 5);
        due.is("ice then", x.ice(0, 0), 15);
        due.is("skater then", x.skater(0, 0), 1);
        while (undone > 0 && x.redo()) {
            undone--;
        }
        due.is("all redone", undone, 0);
        due.is("bars again", x.about(5), 45);
        due.is("ice again", x.ice(0, 0), 55);
        x = Due.told("pond 1 by 1;ice 0;skater a weight 1 at 0 0;");
        x.hold(3);
        due.is("IN", x.skater(0, 3), 0);
        x.undo();
        due.is("UP again", x.skater(0, 2), 1);
        due.is("no BAR", x.skater(0, 3), -1);
        x.redo();
        due.is("IN again", x.skater(0, 5), 0);
    }

    private static String six(String lines, int weight) {
        StringBuilder text = new StringBuilder("pond 3 by 2;" + lines);
        for (int i = 0; i < 6; i++) {
            text.append("skater s").append((char) ('a' + i)).append(" weight ").append(weight).append(" at ").append(i % 3).append(' ').append(i / 3).append(';');
        }
        return text.toString();
    }

    // Promise 13
    private void orderOfTunes() {
        IceTunes x = Due.told(BAND);
        due.is("order(7)", x.order(7), 0);
        due.is("its row", x.lies(0) * 100 + x.lies(1) * 10 + x.lies(2), 120);
        due.is("order(3)", x.order(3), 2);
        due.is("of like ones the first", x.lies(0) * 10 + x.lies(1), 1);
        due.is("nothing is played", x.about(5), 0);
        due.is("order(0)", x.order(0), 0);
        due.is("nothing lies", x.about(12), 0);
        x.order(1);
        due.is("order(8)", x.order(8), -1);
        due.is("nothing lies behind NONE", x.about(12), 0);
        due.is("order(-1)", x.order(-1), -1);
        due.is("order lowest", x.order(LOW), -1);
        x.play(0);
        due.is("those IN before count", x.order(0), 1);
        due.is("of all", x.order(4), 1);
        x = Due.told(six("ice 1;silence 0;tune a bars 1 0;tune b bars 1 0 - 1;", 2));
        due.is("all six go IN", x.order(3), 6);
        due.is("a row all the same", x.about(12) * 100 + x.lies(0) * 10 + x.lies(1), 201);
        due.is("hush: all six", x.hush(1, 0) * 10 + x.hush(1, 1), 6);
        due.is("duel: none of six", x.duel(3, 2, 0) * 10 + x.duel(3, 2, 1), 0);
        x = Due.told(six("tune a bars 1 0;tune b bars 1 1;", 2));
        due.is("duel: all six", x.duel(3, 2, 0) * 10 + x.duel(3, 2, 1), 60);
    }

    // Promise 14
    private void duelOfTunes() {
        IceTunes x = Due.told(BAND);
        due.is("duel(7, 1, 0)", x.duel(7, 1, 0), 2);
        due.is("duel(7, 1, 1)", x.duel(7, 1, 1), 1);
        due.is("duel(7, 2, 0)", x.duel(7, 2, 0), 2);
        due.is("duel(7, 2, 1)", x.duel(7, 2, 1), 2);
        due.is("duel(1, 1, 0)", x.duel(1, 1, 0), 1);
        due.is("duel(1, 4, 0)", x.duel(1, 4, 0), 0);
        due.is("duel(1, 4, 1)", x.duel(1, 4, 1), 0);
        due.is("no TUNES", x.duel(0, 1, 0), -1);
        due.is("a TUNE that is none", x.duel(8, 1, 0), -1);
        due.is("below", x.duel(-1, 1, 0), -1);
        due.is("n 0", x.duel(7, 0, 0), -1);
        due.is("n 5", x.duel(7, 5, 0), -1);
        due.is("what 2", x.duel(7, 1, 2), -1);
        due.is("what -1", x.duel(7, 1, -1), -1);
        due.is("nothing is played", x.about(5) + x.about(6), 0);
        x.play(0);
        x.play(1);
        due.is("nobody UP", x.duel(6, 3, 0), 0);
        due.is("the first then", x.duel(6, 3, 1), 1);
        x = Due.told("pond 1 by 1;ice 6;tune a bars 1 0 - 3;tune b bars 1 2;skater s weight 5 at 0 0;");
        due.is("band, rival, band", x.duel(3, 3, 0), 1);
        due.is("it lifts first", x.duel(3, 3, 1), 1);
        due.is("the rival last", x.duel(3, 4, 0), 0);
        due.is("all alike: the first", x.duel(3, 4, 1), 0);
        x = Due.told("pond 2 by 1;cell 0 0 ice 1;tune a bars 1 0;tune b bars 2 0;skater s weight 5 at 0 0;skater t weight 5 at 1 0;");
        due.is("one stays UP", x.duel(3, 1, 0), 1);
        due.is("of like ones the first", x.duel(3, 1, 1), 0);
    }

    // Promise 15
    private void planksForTunes() {
        IceTunes x = Due.told(BAND);
        x.order(7);
        due.is("planks(0)", x.planks(0), 1);
        due.is("where", x.lies(0), 0);
        due.is("planks(1)", x.planks(1), 0);
        due.is("nothing lies", x.about(12), 0);
        x.planks(0);
        due.is("planks(3)", x.planks(3), -2);
        due.is("nothing lies behind -2", x.about(12), 0);
        due.is("planks(-1)", x.planks(-1), -2);
        x = Due.told("pond 2 by 3;ice 1;tune a bars 2 0;skater s weight 2 at 1 2 north;skater t weight 2 at 0 1 stay;plank at 0 1;");
        due.is("two on a way", x.planks(0), 2);
        due.is("by y", x.lies(0), 1);
        due.is("then", x.lies(1), 6);
        due.is("nobody is IN", x.about(13), 2);
        x = Due.told("pond 3 by 1;ice 1;tune a bars 1 0;skater s weight 2 at 0 0;skater t weight 2 at 1 0;skater u weight 2 at 2 0;");
        x.order(1);
        due.is("3 are too many", x.planks(0), -1);
        due.is("nothing lies behind NONE", x.about(12), 0);
        x.play(0);
        due.is("those IN need none", x.planks(0), 0);
    }

    // Promise 16
    private void hushAhead() {
        IceTunes x = Due.told(BAND);
        due.is("hush(0, 0)", x.hush(0, 0), 2);
        due.is("hush(0, 1)", x.hush(0, 1), 0);
        due.is("hush(1, 0)", x.hush(1, 0), 0);
        due.is("hush(3, 0)", x.hush(3, 0), -1);
        due.is("hush(-1, 0)", x.hush(-1, 0), -1);
        due.is("hush(0, 2)", x.hush(0, 2), -1);
        due.is("hush(0, -1)", x.hush(0, -1), -1);
        due.is("nothing is played", x.about(5), 0);
        String beat = ";tune a bars 1 0 - 9;skater s weight 1 at 0 0;";
        x = Due.told("pond 1 by 1;ice 2;silence beat = 7 and 1" + beat);
        due.is("8 by the beat of silence", x.hush(0, 0) * 10 + x.hush(0, 1), 1);
        x = Due.told("pond 1 by 1;ice 2;silence (beat = 7) * 9" + beat);
        due.is("8 are the most", x.hush(0, 0) * 10 + x.hush(0, 1), 80);
        x = Due.told("pond 1 by 1;ice 2;silence (beat = 8) * 9" + beat);
        due.is("9 are too many", x.hush(0, 0) * 10 + x.hush(0, 1), 1);
    }

    // Promise 17
    private void breaksByThickness() {
        IceTunes x = Due.told(BAND);
        due.is("breaks(0, 0)", x.breaks(0, 0), 1);
        due.is("breaks(0, 1)", x.breaks(0, 1), -1);
        due.is("breaks(0, -2)", x.breaks(0, -2), 0);
        due.is("breaks(0, 9)", x.breaks(0, 9), -1);
        due.is("breaks(0, -9)", x.breaks(0, -9), 0);
        due.is("breaks(0, 10)", x.breaks(0, 10), -2);
        due.is("breaks(0, -10)", x.breaks(0, -10), -2);
        due.is("breaks(3, 0)", x.breaks(3, 0), -2);
        due.is("breaks(-1, 0)", x.breaks(-1, 0), -2);
        due.is("nothing is played", x.ice(0, 0), 10);
        x.hold(1);
        due.is("its BAR, not the EVENING's", x.breaks(0, -2), 1);
        x = Due.told("pond 1 by 1;ice 95;tune a bars 1 0 - 50;skater s weight 50 at 0 0;");
        due.is("99 at most", x.breaks(0, 9), 0);
        x = Due.told("pond 1 by 1;ice 3;tune a bars 1 5;skater s weight 5 at 0 0;");
        due.is("0 at least", x.breaks(0, -9), -1);
    }

    // Promise 18
    private void whatLies() {
        IceTunes x = Due.told(BAND);
        due.is("nothing yet", x.lies(0), -1);
        x.order(5);
        due.is("first", x.lies(0), 2);
        due.is("second", x.lies(1), 0);
        due.is("third", x.lies(2), -1);
        due.is("below", x.lies(-1), -1);
        due.is("far", x.lies(HIGH), -1);
        x.play(0);
        x.duel(7, 2, 0);
        x.hush(0, 0);
        x.breaks(0, 0);
        x.sure(1, 0, 0);
        x.image(0);
        x.back(0);
        due.is("it lies there still", x.lies(0) * 10 + x.about(12), 22);
        x.asked(3, 0);
        due.is("another lies there", x.about(12), 3);
    }

    // Promises 19 to 22
    private void sightsAndTimes() {
        IceTunes x = Due.told(BAND);
        due.is("bar 0", x.sight(0, 0, 0, 0, 0), -1);
        due.is("bar 37", x.sight(37, 0, 0, 0, 0), -1);
        due.is("no CELL", x.sight(1, 2, 0, 0, 0), -1);
        due.is("most below least", x.sight(1, 0, 0, 5, 4), -1);
        due.is("least below 0", x.sight(1, 0, 0, -1, 4), -1);
        due.is("most above 99", x.sight(1, 0, 0, 0, 100), -1);
        due.is("seen bar 0", x.seen(0, 0, true), -1);
        due.is("seen bar 37", x.seen(37, 0, true), -1);
        due.is("no SKATER", x.seen(1, 2, true), -1);
        due.is("below", x.seen(1, -1, false), -1);
        due.is("none", x.about(8), 0);
        due.is("untell of none", x.untell(0), false);
        for (int i = 0; i < 30; i++) {
            due.is("its number", i % 2 == 0 ? x.sight(36, 1, 0, 0, 99) : x.seen(1, 1, true), i);
        }
        due.is("there are 30", x.sight(1, 0, 0, 0, 99), -1);
        due.is("there are 30", x.seen(1, 0, true), -1);
        due.is("untell(29)", x.untell(29), true);
        due.is("again", x.untell(29), false);
        due.is("untell(30)", x.untell(30), false);
        due.is("untell(-1)", x.untell(-1), false);
        due.is("30 still", x.seen(1, 0, true) + x.about(8), 29);
        due.is("later(0)", x.later(0), 0);
        due.is("later(1000)", x.later(1000), 1000);
        due.is("later(1001)", x.later(1001), -1);
        due.is("later(-1)", x.later(-1), -1);
        for (int i = 0; i < 98; i++) {
            x.later(1000);
        }
        due.is("later(999)", x.later(999), 99999);
        due.is("above", x.later(2), -1);
        due.is("the last", x.later(1), 100000);
        due.is("no more", x.later(1), -1);
        due.is("still", x.later(0), 100000);
    }

    // Promises 23 and 24
    private void askedAndSure() {
        IceTunes x = Due.told(BAND);
        due.is("all rows", x.asked(3, 0), 27);
        due.is("the first", x.lies(0) + x.lies(1) + x.lies(2), 0);
        due.is("not sure", x.sure(3, 0, 0), -2);
        x.play(0);
        x.sight(1, 0, 0, 6, 6);
        due.is("from the beginning", x.asked(1, 0), 1);
        due.is("sure", x.sure(1, 0, 0), 0);
        due.is("asked(2, 0)", x.asked(2, 0), 3);
        due.is("sure of the first", x.sure(2, 0, 0), 0);
        due.is("not of the second", x.sure(2, 1, 0), -2);
        x.later(1);
        x.seen(3, 1, true);
        due.is("asked(2, 1)", x.asked(2, 1), 1);
        due.is("the row", x.lies(0) * 10 + x.lies(1), 2);
        due.is("sure of the second", x.sure(2, 1, 1), 2);
        due.is("behind their end: not so", x.asked(1, 1), 0);
        due.is("nothing lies behind 0", x.about(12), 0);
        due.is("no rows", x.sure(1, 0, 1), -1);
        due.is("as known before", x.asked(2, 0), 3);
        x.later(1);
        x.untell(0);
        due.is("known at 1 still", x.asked(2, 1), 1);
        due.is("not at 2", x.asked(2, 2), 2);
        due.is("first of these", x.lies(0) * 10 + x.lies(1), 2);
        due.is("nothing was known", x.asked(1, -1), 3);
        due.is("later on as now", x.asked(2, 99), 2);
        x.seen(1, 0, false);
        x.untell(2);
        due.is("told and untold at once", x.asked(2, 2), 2);
        x.asked(1, 0);
        due.is("n 0", x.asked(0, 0), -1);
        due.is("nothing lies behind NONE", x.about(12), 0);
        due.is("n 4", x.asked(4, 0), -1);
        due.is("place 2 of 2", x.sure(2, 2, 0), -1);
        due.is("place -1", x.sure(2, -1, 0), -1);
        due.is("sure n 4", x.sure(4, 0, 0), -1);
        due.is("sure n 0", x.sure(0, 0, 0), -1);
        x = Due.told("pond 1 by 1;ice 2;tune a bars 12 0 - (beat = 11);tune b bars 12 0;skater s weight 1 at 0 0;");
        x.seen(36, 0, false);
        due.is("he was IN behind 36", x.asked(3, 0), 4);
        due.is("by a a a", x.lies(0) + x.lies(1) + x.lies(2), 0);
        x.seen(24, 0, true);
        due.is("and UP behind 24", x.asked(3, 0), 2);
        due.is("by a b a", x.lies(0) * 100 + x.lies(1) * 10 + x.lies(2), 10);
        x.seen(36, 0, true);
        due.is("both can't be", x.asked(3, 0), 0);
        x = Due.told("pond 2 by 2;cell 0 1 ice 9;tune a bars 1 1;tune b bars 1 2;");
        x.sight(2, 0, 1, 11, 12);
        due.is("of the CELL below", x.asked(2, 0), 3);
        x.sight(1, 0, 1, 11, 11);
        due.is("b a", x.asked(2, 0) * 100 + x.lies(0) * 10 + x.lies(1), 110);
    }

    // Promises 25 and 26
    private void imageAndBack() {
        IceTunes x = Due.told(BAND);
        due.is("image(3)", x.image(3), -1);
        due.is("image(-1)", x.image(-1), -1);
        due.is("back of none", x.back(2), -1);
        x.play(0);
        due.is("image(2)", x.image(2), 2);
        due.is("acts stay", x.about(6), 1);
        x.hold(3);
        due.is("image(0)", x.image(0), 5);
        x.undo();
        x.undo();
        due.is("back(2)", x.back(2), 2);
        due.is("no ACTS", x.about(6) + x.about(7), 0);
        due.is("undo", x.undo(), false);
        due.is("as it was", x.skater(0, 3) * 100 + x.ice(1, 0), 102);
        due.is("gone on from", x.hold(1), 1);
        due.is("back(0)", x.back(0), 5);
        due.is("ice", x.ice(0, 0), 3);
        due.is("again", x.back(2), 2);
        due.is("back(1)", x.back(1), -1);
        due.is("back(3)", x.back(3), -1);
        due.is("back(-1)", x.back(-1), -1);
        x.hold(1);
        due.is("nothing done by NONE", x.back(1) + x.about(6), 0);
        due.is("a BOX anew", x.image(2), 3);
        due.is("its BARS", x.back(2), 3);
    }

    // Promise 27
    private void aboutAll() {
        IceTunes x = Due.told("pond 3 by 2;plank at 0 0;plank at 2 1;tune a bars 2 (ice) - beat;skater s weight 9 at 0 0;");
        due.is("across", x.about(0), 3);
        due.is("down", x.about(1), 2);
        due.is("tunes", x.about(2), 1);
        due.is("skaters", x.about(3), 1);
        due.is("planks", x.about(4), 2);
        x.play(0);
        x.hold(5);
        x.undo();
        due.is("bars", x.about(5), 2);
        due.is("to undo", x.about(6), 1);
        due.is("to redo", x.about(7), 1);
        x.sight(1, 0, 0, 0, 0);
        x.later(3);
        x.untell(0);
        due.is("sights, untold ones too", x.about(8), 1);
        due.is("time", x.about(9), 3);
        x.feed(0, 0, 0, 0, 0);
        due.is("tape", x.about(10), 20);
        due.is("units: ( e ), too", x.about(11), 3);
        x.order(1);
        due.is("lies", x.about(12), 1);
        due.is("UP", x.about(13), 1);
        due.is("about(14)", x.about(14), -1);
        due.is("about(-1)", x.about(-1), -1);
        due.is("about lowest", x.about(LOW), -1);
    }
}
