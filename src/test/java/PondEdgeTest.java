import java.util.List;

/**
 * The limits of a POND and its FAULTS: each sentence at the last that is allowed and at the first that is not.
 * In a text with a FAULT the sign ^ (no TOKEN) stands ahead of its place, and is left out.
 */
public final class PondEdgeTest {
    private static final String P = "pond 1 by 1;";
    private static final String S = P + "silence ";
    private static final String[] WORDS = {"pond", "by", "ice", "cell", "plank", "at", "tune", "bars", "silence", "skater", "weight", "stay", "north",
        "east", "south", "west", "or", "and", "not", "beat", "load", "around"};

    private final Due due = new Due();

    public static void main(String[] args) {
        PondEdgeTest test = new PondEdgeTest();
        test.textOf1600Bytes();
        test.emptyText();
        test.wordsOfEightLetters();
        test.numbersOfFourDigits();
        test.everyByteAsFirst();
        test.everyByteBetweenUnits();
        test.blanksPartOrNot();
        test.asLongAsCanBe();
        test.noLetterBehindANumber();
        test.wordsThatAreNoNames();
        test.pondComesFirst();
        test.pondOnce();
        test.acrossAndDown();
        test.iceLine();
        test.cellLines();
        test.plankLines();
        test.sixTunes();
        test.barsOfATune();
        test.silenceOnce();
        test.sixSkaters();
        test.weights();
        test.placesOfSkaters();
        test.eightSteps();
        test.numberedAsTold();
        test.thirtyUnitsInOne();
        test.ninetyUnitsInAll();
        test.withinSixOthers();
        test.nothingOfATextBefore();
        test.manyPondsByOneObject();
        test.firstByItsPlace();
        test.atOnePlaceTheLeast();
        test.theEndIsThePlace();
        test.namesToldAlready();
        test.cellsToldAlready();
        test.grammarOfLines();
        test.grammarOfFormulas();
        test.faultOfTheLatest();
        test.due.end();
    }

    private IceTunes stands(String text) {
        IceTunes x = new IceTunes();
        int cells = Due.tell(x, text);
        due.is("pond() of: " + text, cells, x.about(0) * x.about(1));
        due.is("fault(0) of: " + text, x.fault(0), 0);
        due.is("fault(1) of: " + text, x.fault(1), -1);
        due.is("bytes on the TAPE behind: " + text, x.about(10), 0);
        return x;
    }

    private void fault(int fault, String marked) {
        int place = marked.indexOf('^');
        fault(fault, place, marked.substring(0, place) + marked.substring(place + 1));
    }

    private void fault(int fault, int place, String text) {
        IceTunes x = Due.told("pond 2 by 3;silence 1;");
        due.is("pond() of: " + text, Due.tell(x, text), -1);
        due.is("fault(0) of: " + text, x.fault(0), fault);
        due.is("fault(1) of: " + text, x.fault(1), place);
        due.is("bytes on the TAPE behind: " + text, x.about(10), text.length());
        due.is("the POND of before behind: " + text, x.about(0) * 10 + x.about(1), 23);
    }

    private static String many(String part, String between, int count) {
        StringBuilder text = new StringBuilder();
        for (int i = 0; i < count; i++) {
            text.append(i == 0 ? "" : between).append(part);
        }
        return text.toString();
    }

    // "A POND is a text of at most 1,600 bytes"
    private void textOf1600Bytes() {
        String line = "plank at 0 0;";
        stands(P + line + " ".repeat(1600 - P.length() - line.length()));
        stands(P + " ".repeat(1600 - P.length() - line.length()) + line);
        fault(2, P + " ".repeat(1599 - P.length()) + "^;");
        fault(1, P + " ".repeat(1599 - P.length()) + "^A");
        fault(2, " ".repeat(1600 - P.length() + 1) + "pond 1 by 1^");
    }

    // "(empty at first)", "a text may be empty: no CELLS"
    private void emptyText() {
        due.is("no CELLS", stands("").pond(), 0);
        stands(" ");
        stands("\n");
        stands(" \n".repeat(800));
        IceTunes x = Due.told("pond 5 by 5;tune a bars 1 1;skater s weight 1 at 0 0;");
        due.is("an empty POND behind another", x.pond(), 0);
        for (int what = 0; what <= 13; what++) {
            due.is("empty: about(" + what + ")", x.about(what), 0);
        }
        due.is("empty: ice(0, 0)", x.ice(0, 0), -1);
        due.is("empty: skater(0, 0)", x.skater(0, 0), -2);
        due.is("empty: play(0)", x.play(0), -1);
    }

    // "words (a .. z, 8 at most)"
    private void wordsOfEightLetters() {
        stands(P + "tune a bars 1 1;");
        stands(P + "tune z bars 1 1;");
        stands(P + "tune abcdefgh bars 1 1;");
        fault(1, P + "tune ^abcdefghi bars 1 1;");
        stands(P + "skater zyxwvuts weight 1 at 0 0;");
        fault(1, P + "skater ^zyxwvutsr weight 1 at 0 0;");
        fault(1, P + "tune ^" + "a".repeat(1500) + ";");
        fault(1, P + "^silencess 1;");
        fault(2, P + "^silences 1;");
        fault(1, P + "tune a^A bars 1 1;");
        fault(1, P + "tune ^` bars 1 1;");
        fault(1, P + "tune ^{ bars 1 1;");
        fault(1, P + "tune ^@ bars 1 1;");
        fault(1, P + "tune ^Z bars 1 1;");
    }

    // "N (1 to 4 digits)"
    private void numbersOfFourDigits() {
        stands(S + "0;");
        stands(S + "9;");
        stands(S + "9999;");
        stands(S + "0000;");
        fault(1, S + "^10000;");
        fault(1, S + "^00000;");
        fault(1, S + "^" + "1".repeat(1500) + ";");
        stands("pond 0005 by 0001;ice 0099;");
        fault(1, "pond ^00001 by 1;");
        fault(1, S + "1 ^: 1;");
        fault(1, S + "1 ^. 1;");
    }

    // "TOKENS: words, N, signs ; ( ) < > = + - * / %; blanks (32, 10)"
    private void everyByteAsFirst() {
        for (int b = 0; b < 256; b++) {
            String text = P + (char) b;
            if (b == 32 || b == 10) {
                stands(text);
            } else {
                boolean token = b >= 'a' && b <= 'z' || b >= '0' && b <= '9' || b > 0 && ";()<>=+-*/%".indexOf(b) >= 0;
                fault(token ? 2 : 1, P.length(), text);
            }
        }
    }

    private void everyByteBetweenUnits() {
        int at = S.length();
        for (int b = 0; b < 256; b++) {
            String text = S + "1" + (char) b + "1;";
            if (b >= '0' && b <= '9' || b > 0 && "<>=+-*/%".indexOf(b) >= 0) {
                stands(text);
            } else if (b >= 'a' && b <= 'z') {
                fault(1, at, text);
            } else if (b == 32 || b == 10 || b == ';') {
                fault(2, at + 2, text);
            } else {
                fault(b == '(' || b == ')' ? 2 : 1, at + 1, text);
            }
        }
    }

    // "blanks (32, 10) part them or not"
    private void blanksPartOrNot() {
        stands("pond1 by1;ice9;cell0 0 ice1;plank at0 0;tune a bars1(ice)*2;silence(ice+beat)/load-around%3<4;skater s weight1 at0 0;");
        stands("\n\npond \n 1\nby\n1\n;\nice\n9\n;\n");
        due.is("in and round signs", stands("pond 1 by 1 ; silence ( 1 + 2 ) * 3 ;").hold(1), 0);
        for (String other : new String[] {"\t", "\r", "\u000b", "\f", "\u0000", "\u00a0", "_", ","}) {
            fault(1, "pond 1^" + other + "by 1;");
            fault(1, "pond^" + other + "1 by 1;");
        }
    }

    // "each is as long as can be"
    private void asLongAsCanBe() {
        IceTunes x = stands(S + "12;");
        x.hold(1);
        due.is("12 is one N", x.ice(0, 0), 62);
        fault(2, S + "1 ^2;");
        fault(2, P + "^tunea bars 1 1;");
        fault(2, "^pondpond 1 by 1;");
        fault(2, S + "^notice;");
        stands(S + "not ice;");
        fault(2, S + "^beatbeat;");
        fault(2, S + "1 ^orload;");
        stands(S + "1 or load;");
        fault(2, P + "skater s weight 1 at 0 0 ^staystay;");
        stands(P + "skater s weight 1 at 0 0 stay stay;");
        stands(P + "tune tunes bars 1 1;tune icy bars 1 1;tune no bars 1 1;tune an bars 1 1;tune o bars 1 1;tune loads bars 1 1;");
    }

    // "no letter directly behind an N": it is no TOKEN
    private void noLetterBehindANumber() {
        fault(1, "pond ^1by 1;");
        stands("pond 1 by 1;");
        fault(1, "pond 1 by ^1a;");
        fault(1, S + "^1or 2;");
        stands(S + "1 or 2;");
        fault(1, S + "1+^2and 3;");
        fault(1, P + "cell 0 ^0ice 5;");
        fault(1, P + "skater s weight ^1at 0 0;");
        fault(1, P + "skater s weight 1 at 0 ^0stay;");
        fault(1, P + "tune a bars ^1ice;");
        fault(2, P + "tune a bars 1^;");
        stands(P + "tune a bars 1(ice);");
        fault(2, P + "tune a^1 bars 1 1;");
    }

    // "Words that stand for themselves here are no NAMES"
    private void wordsThatAreNoNames() {
        due.is("words", WORDS.length, 22);
        for (String word : WORDS) {
            fault(2, P + "tune ^" + word + " bars 1 1;");
            fault(2, P + "skater ^" + word + " weight 1 at 0 0;");
            stands(P + "tune x" + word + " bars 1 1;skater x" + word + " weight 1 at 0 0;");
            stands(P + "tune " + word.substring(1) + "q bars 1 1;");
            stands(P + "tune z" + word.substring(1) + " bars 1 1;");
            stands(P + "tune " + word.substring(0, word.length() - 1) + "z bars 1 1;");
        }
    }

    // "pond comes first .. other lines behind it alone"; "ahead of its time: at the line's first word"
    private void pondComesFirst() {
        for (String line : new String[] {"ice 1;", "cell 0 0 ice 1;", "plank at 0 0;", "tune a bars 1 1;", "silence 1;", "skater s weight 1 at 0 0;"}) {
            fault(2, "^" + line);
            fault(2, "^" + line + P);
            fault(2, " \n^" + line + P);
            stands(P + line);
        }
        stands(" \n" + P);
        stands("pond 1 by 1;skater s weight 1 at 0 0;silence 1;tune a bars 1 1;plank at 0 0;cell 0 0 ice 1;ice 2;");
    }

    // "pond .. once"
    private void pondOnce() {
        fault(2, P + "^pond 1 by 1;");
        fault(2, P + "ice 1;^pond 2 by 2;");
        fault(2, P + "^pond 6 by 6;");
        fault(2, P + "^pond");
    }

    // "across 1 .. 5, down 1 .. 5"
    private void acrossAndDown() {
        for (int across = 1; across <= 5; across++) {
            for (int down = 1; down <= 5; down++) {
                IceTunes x = stands("pond " + across + " by " + down + ";");
                due.is("across", x.about(0), across);
                due.is("down", x.about(1), down);
                due.is("the last CELL", x.ice(across - 1, down - 1), 50);
                due.is("none right of it", x.ice(across, down - 1), -1);
                due.is("none below it", x.ice(across - 1, down), -1);
                due.is("no LOAD right of it", x.load(across, down - 1), -1);
                due.is("no LOAD below it", x.load(across - 1, down), -1);
            }
        }
        fault(4, "pond ^0 by 1;");
        fault(4, "pond ^6 by 1;");
        fault(4, "pond ^9999 by 1;");
        fault(4, "pond 1 by ^0;");
        fault(4, "pond 1 by ^6;");
        fault(4, "pond 5 by ^9999;");
    }

    // "ice (0 .. 99, of all CELLS at first; 50) once"
    private void iceLine() {
        due.is("ice 0", stands("pond 2 by 2;ice 0;").ice(1, 1), 0);
        due.is("ice 99", stands("pond 2 by 2;ice 99;").ice(0, 1), 99);
        due.is("no ice line", stands("pond 2 by 2;").ice(1, 0), 50);
        fault(4, P + "ice ^100;");
        fault(4, P + "ice ^9999;");
        fault(2, P + "ice 1;^ice 1;");
        fault(2, P + "ice 50;cell 0 0 ice 1;^ice 50;");
        fault(2, P + "ice 0;^ice 0;");
    }

    // "cells (ICE 0 .. 99 of that CELL; each once)"
    private void cellLines() {
        IceTunes x = stands("pond 2 by 3;ice 7;cell 1 2 ice 0;cell 0 0 ice 99;");
        due.is("cell ice 0", x.ice(1, 2), 0);
        due.is("cell ice 99", x.ice(0, 0), 99);
        due.is("another", x.ice(1, 0), 7);
        fault(4, "pond 2 by 3;cell 0 0 ice ^100;");
        fault(4, "pond 2 by 3;cell ^2 0 ice 1;");
        fault(4, "pond 2 by 3;cell 1 ^3 ice 1;");
        fault(4, "pond 2 by 3;cell ^9999 0 ice 1;");
        x = stands("pond 5 by 5;" + everyCell("cell ", " ice 3"));
        due.is("all told", x.ice(4, 4) + x.ice(0, 4) + x.ice(4, 0), 9);
        due.is("cell told ahead of ice", stands(P + "cell 0 0 ice 4;ice 9;").ice(0, 0), 4);
        due.is("as thick as 0, ahead of ice", stands(P + "cell 0 0 ice 0;ice 9;").ice(0, 0), 0);
    }

    private static String everyCell(String head, String tail) {
        StringBuilder text = new StringBuilder();
        for (int i = 0; i < 25; i++) {
            text.append(head).append(i % 5).append(' ').append(i / 5).append(tail).append(';');
        }
        return text.toString();
    }

    // "planks (each CELL once)"
    private void plankLines() {
        due.is("planks everywhere", stands("pond 5 by 5;" + everyCell("plank at ", "")).about(4), 25);
        due.is("no plank", stands("pond 5 by 5;").about(4), 0);
        fault(4, "pond 2 by 3;plank at ^2 0;");
        fault(4, "pond 2 by 3;plank at 0 ^3;");
        stands("pond 2 by 3;plank at 1 2;");
        stands("pond 2 by 3;plank at 0 1;plank at 1 0;");
    }

    private static String tunes(int count, String tail) {
        StringBuilder text = new StringBuilder();
        for (int i = 0; i < count; i++) {
            text.append("tune ").append((char) ('a' + i)).append(tail);
        }
        return text.toString();
    }

    private static String skaters(int count, String tail) {
        StringBuilder text = new StringBuilder();
        for (int i = 0; i < count; i++) {
            text.append("skater ").append((char) ('a' + i)).append(tail);
        }
        return text.toString();
    }

    // "6 TUNES"; "one of a sort too many .. at the line's first word"
    private void sixTunes() {
        IceTunes x = stands(P + tunes(6, " bars 1 1;"));
        due.is("six", x.about(2), 6);
        due.is("the sixth", x.play(5), 0);
        due.is("no seventh", x.play(6), -1);
        due.is("all six in order", x.order(63), 0);
        due.is("a seventh in order", x.order(64), -1);
        due.is("the sixth in a duel", x.duel(32, 1, 1), 5);
        due.is("rows of three", x.asked(3, 0), 216);
        fault(2, P + tunes(6, " bars 1 1;") + "^tune g bars 1 1;");
        fault(2, P + tunes(6, " bars 1 1;") + "^tune");
        fault(2, P + tunes(6, " bars 1 1;") + "skater s weight 1 at 0 0;^tune a bars 0 1;");
        due.is("no TUNES", stands(P).about(2), 0);
    }

    // "(bars 1 .. 12)"
    private void barsOfATune() {
        IceTunes x = stands(P + "tune a bars 1 1;tune b bars 12 1;");
        x.play(0);
        due.is("one BAR", x.about(5), 1);
        x.play(1);
        due.is("twelve BARS more", x.about(5), 13);
        due.is("ICE more by each", x.ice(0, 0), 63);
        fault(4, P + "tune a bars ^0 1;");
        fault(4, P + "tune a bars ^13 1;");
        fault(4, P + "tune a bars ^9999 1;");
    }

    // "silence (once; else it does nothing)"
    private void silenceOnce() {
        fault(2, S + "1;^silence 1;");
        fault(2, S + "1;tune a bars 1 1;^silence 0;");
        IceTunes x = stands(P);
        x.hold(20);
        due.is("no silence line", x.ice(0, 0), 50);
        x = stands(S + "1;");
        x.hold(20);
        due.is("a silence line", x.ice(0, 0), 70);
        for (int i = 0; i < 3; i++) {
            Due.tell(x, P);
            x.hold(20);
            due.is("none of a POND before", x.ice(0, 0), 50);
        }
    }

    // "6 SKATERS"
    private void sixSkaters() {
        IceTunes x = stands(P + skaters(6, " weight 1 at 0 0;"));
        due.is("six", x.about(3), 6);
        due.is("all UP", x.about(13), 6);
        due.is("the sixth", x.skater(5, 2), 1);
        due.is("no seventh", x.skater(6, 2), -2);
        due.is("the sixth is seen", x.seen(1, 5, true), 0);
        due.is("no seventh is", x.seen(1, 6, true), -1);
        fault(2, P + skaters(6, " weight 1 at 0 0;") + "^skater g weight 1 at 0 0;");
        fault(2, P + skaters(6, " weight 1 at 0 0;") + "^skater a weight 0 at 9 9;");
        due.is("no SKATERS", stands(P).about(3), 0);
    }

    // "weight 1 .. 99"
    private void weights() {
        due.is("weight 1", stands(P + "skater s weight 1 at 0 0;").load(0, 0), 1);
        due.is("weight 99", stands(P + "skater s weight 99 at 0 0;").load(0, 0), 99);
        due.is("six of 99", stands(P + skaters(6, " weight 99 at 0 0;")).load(0, 0), 594);
        fault(4, P + "skater s weight ^0 at 0 0;");
        fault(4, P + "skater s weight ^100 at 0 0;");
        fault(4, P + "skater s weight ^9999 at 0 0;");
    }

    private void placesOfSkaters() {
        IceTunes x = stands("pond 2 by 3;skater s weight 1 at 1 2;skater t weight 2 at 1 2;skater u weight 4 at 0 0;");
        due.is("two at one CELL", x.load(1, 2), 3);
        due.is("one alone", x.load(0, 0), 4);
        fault(4, "pond 2 by 3;skater s weight 1 at ^2 0;");
        fault(4, "pond 2 by 3;skater s weight 1 at 0 ^3;");
    }

    // "8 steps at most, gone again and again; none: stay"; "a 9th step .. at its first TOKEN"
    private void eightSteps() {
        String s = "pond 5 by 1;skater s weight 1 at 0 0";
        IceTunes x = stands(s + " east east east east west west west west;");
        int[] way = {1, 2, 3, 4, 3, 2, 1, 0, 1, 2, 3, 4, 3, 2, 1, 0, 1};
        for (int at : way) {
            x.hold(1);
            due.is("eight steps again and again", x.skater(0, 0), at);
        }
        for (String step : new String[] {"stay", "north", "east", "south", "west"}) {
            fault(2, s + " east east east east west west west west ^" + step + ";");
            fault(2, s + " " + many(step, " ", 8) + " ^" + step + ";");
            stands(s + " " + many(step, " ", 8) + ";");
        }
        x = stands(s + ";");
        x.hold(20);
        due.is("none: he stays", x.skater(0, 0), 0);
        x = stands(s + " east;");
        x.hold(3);
        due.is("one, again and again", x.skater(0, 0), 3);
    }

    // "numbered as told, each sort by itself"
    private void numberedAsTold() {
        IceTunes x = stands("pond 2 by 1;tune z bars 3 0;skater q weight 5 at 1 0;tune a bars 2 0;skater b weight 9 at 0 0;");
        due.is("SKATER 0 is the first told", x.load(1, 0) * 10 + x.skater(0, 0), 51);
        due.is("SKATER 1", x.load(0, 0) * 10 + x.skater(1, 0), 90);
        x.play(0);
        due.is("TUNE 0 is the first told", x.about(5), 3);
        x.play(1);
        due.is("TUNE 1", x.about(5), 5);
    }

    // "30 in one e"; "a unit too many .. at its first TOKEN"
    private void thirtyUnitsInOne() {
        String thirty = many("1", "+", 30);
        due.is("30 units", stands(S + thirty + ";").about(11), 30);
        fault(2, S + thirty + "+^1;");
        fault(2, S + thirty + "+^(1);");
        fault(2, S + thirty + "+^ice;");
        fault(2, S + thirty + " and not ^beat;");
        fault(2, P + "tune a bars 1 " + thirty + " or ^load;");
        due.is("( e ) is a unit, too", stands(S + "(" + many("1", "+", 29) + ");").about(11), 30);
        fault(2, S + "(" + many("1", "+", 29) + "+^1);");
        due.is("15 in ( )", stands(S + many("(1)", "+", 15) + ";").about(11), 30);
        fault(2, S + many("(1)", "+", 15) + "+^(1);");
        fault(2, S + many("(1)", "+", 14) + "+1+(^1);");
        due.is("not is no unit", stands(S + "not " + many("1", " and not ", 30) + ";").about(11), 30);
    }

    // "90 units in all"
    private void ninetyUnitsInAll() {
        String thirty = many("1", "+", 30);
        String full = S + thirty + ";tune a bars 1 " + thirty + ";tune b bars 1 " + thirty + ";";
        due.is("90 units", stands(full).about(11), 90);
        fault(2, full + "tune c bars 1 ^1;");
        fault(2, full + "tune c bars 1 ^(1);");
        fault(4, full + "tune c bars ^0 1;");
        String parts = P + tunes(6, " bars 1 " + many("ice", "+", 13) + ";") + "silence ";
        due.is("90 units in seven", stands(parts + many("1", "-", 12) + ";").about(11), 90);
        fault(2, parts + many("1", "-", 12) + "-^1;");
        due.is("89 units in seven", stands(parts + many("1", "-", 11) + ";").about(11), 89);
        due.is("no units", stands(P).about(11), 0);
        IceTunes x = stands(full);
        due.is("counted anew", Due.tell(x, S + "1;"), 1);
        due.is("one unit", x.about(11), 1);
    }

    // "a unit ( e ), or a one behind not, within 6 others at most"; "what is within 7 others: at its first TOKEN, or the not"
    private void withinSixOthers() {
        stands(S + "(((((((1)))))));");
        fault(2, S + "(((((((^(1))))))));");
        stands(S + "not not not not not not not 1;");
        fault(2, S + "not not not not not not not ^not 1;");
        stands(S + "not (not (not (not 1)));");
        fault(2, S + "not (not (not (not ^(1))));");
        stands(S + "((((((not 1))))));");
        fault(2, S + "(((((((^not 1)))))));");
        stands(S + "not not not not not not (1);");
        fault(2, S + "not not not not not not not ^(1);");
        stands(S + "(((((((1)))))))+(((((((1)))))));");
        stands(S + "(((((((ice < beat and load or around * 2 = 3)))))));");
        fault(2, S + "1+(((((((1)))))))+(((((((^(1))))))));");
        stands(S + "not not not not not not not 1 and not not not not not not not 1;");
        stands(P + "tune a bars 1 (((((((1)))))));");
        fault(2, P + "tune a bars 1 (((((((^(1))))))));");
        stands(P + "tune a bars 1 not not not not not not not 1;");
        fault(2, P + "tune a bars 1 not not not not not not not ^not 1;");
    }

    /** What one text tells is not there for the next, whether it was a POND or had a FAULT. */
    private void nothingOfATextBefore() {
        String full = "pond 5 by 5;ice 3;cell 4 4 ice 9;plank at 2 2;silence 7;" + tunes(6, " bars 12 0 - 1;") + skaters(6, " weight 9 at 4 4 north west;");
        IceTunes x = new IceTunes();
        for (String next : new String[] {full, P, full + "A", P, "", full, "", "", full + "A", full, P, P}) {
            int cells = Due.tell(x, next);
            if (next.equals(P) || next.isEmpty()) {
                due.is("CELLS", cells, next.isEmpty() ? 0 : 1);
                for (int what : new int[] {2, 3, 4, 5, 6, 7, 8, 11, 12, 13}) {
                    due.is("about(" + what + ") behind a full one", x.about(what), 0);
                }
                due.is("across and down", x.about(0) * 10 + x.about(1), next.isEmpty() ? 0 : 11);
                x.hold(1);
                due.is("usual ICE", x.ice(0, 0), next.isEmpty() ? -1 : 50);
            } else if (cells > 0) {
                due.is("a full one", x.play(5), 0);
                due.is("none UP", x.about(13), 0);
            }
        }
        due.is("a CELL of it", Due.tell(x, "pond 5 by 5;skater s weight 51 at 2 2;"), 25);
        due.is("its ICE", x.ice(4, 4), 50);
        due.is("one UP", x.about(13), 1);
        due.is("no plank now, no steps", x.hold(1), 0);
        due.is("where he stood", x.skater(0, 0) * 10 + x.skater(0, 1), 22);
    }

    private void manyPondsByOneObject() {
        String thirty = "not not not not not not not 0 and " + many("1", "*", 29);
        String text = P + "ice 0;tune a bars 1 " + thirty + ";tune b bars 2 " + thirty + ";tune c bars 3 " + thirty + ";";
        IceTunes x = new IceTunes();
        for (int i = 0; i < 10; i++) {
            due.is("a POND again", Due.tell(x, text), 1);
            x.play(2);
            due.is("its TUNES do", x.ice(0, 0), 3);
        }
    }

    // "FAULTS, the first by its place (bytes from 0 ..)"
    private void firstByItsPlace() {
        fault(2, "^ice 100;A");
        fault(4, "pond ^6 by 6;A;");
        fault(4, "pond 1 by ^6");
        fault(1, "pond 1 by 1;ice ^A;pond");
        fault(3, P + "tune a bars 1 1;tune ^a bars 99 (;");
        fault(3, P + "cell 0 0 ice 1;cell 0 ^0 ice 100;");
        fault(4, P + "cell ^1 0 ice 100;");
        fault(4, P + "cell 0 ^1 ice 100;");
        fault(2, P + tunes(6, " bars 1 1;") + "^tune a bars 13 1;");
        fault(2, P + "ice 1;^ice 100;");
        fault(4, P + "skater s weight ^100 at 9 9 9;");
        fault(2, P + "tune a ^1;tune a;");
        fault(2, S + "(1^;A");
    }

    // "at one place the least: 1 no TOKEN; 2 one that can't stand there .. 4 a number that can't be"
    private void atOnePlaceTheLeast() {
        fault(1, "^A");
        fault(1, "pond ^00006 by 1;");
        fault(1, "pond ^6by 1;");
        fault(1, "^abcdefghi 1 by 1;");
        fault(1, P + "tune ^abcdefghi bars 1 1;");
        fault(1, P + "skater s weight 1 at 0 0 " + many("stay", " ", 8) + " ^A;");
        fault(1, S + many("1", "+", 30) + "+^12345;");
        fault(1, S + many("1", "+", 30) + "+^A;");
        fault(1, S + "(((((((^A)))))));");
        fault(2, P + "ice ^ice;");
        fault(2, "pond 1 ^6 1;");
        fault(2, P + "tune ^100 bars 1 1;");
    }

    // "(.. the end: the text's length)"
    private void theEndIsThePlace() {
        fault(2, "pond^");
        fault(2, "pond ^");
        fault(2, "pond 1^");
        fault(2, "pond 1 by^");
        fault(2, "pond 1 by 1^");
        fault(2, "pond 1 by 1 \n ^");
        fault(2, P + "ice^");
        fault(2, P + "cell 0 0^");
        fault(2, P + "tune^");
        fault(2, P + "tune a bars 1^");
        fault(2, S + "^");
        fault(2, S + "1^");
        fault(2, S + "(1^");
        fault(2, S + "1 +^");
        fault(2, S + "not^");
        fault(2, P + "skater s weight 1 at 0 0^");
        fault(2, P + "skater s weight 1 at 0 0 stay ^");
    }

    // "3 a NAME told already (of its sort)"
    private void namesToldAlready() {
        fault(3, P + "tune a bars 1 1;tune ^a bars 1 1;");
        fault(3, P + "tune a bars 1 1;tune b bars 1 1;tune ^a bars 1 1;");
        fault(3, P + "tune a bars 1 1;tune b bars 1 1;tune ^b bars 1 1;");
        fault(3, P + tunes(5, " bars 1 1;") + "tune ^e bars 1 1;");
        fault(3, P + "skater s weight 1 at 0 0;skater ^s weight 1 at 0 0;");
        fault(3, P + skaters(5, " weight 1 at 0 0;") + "skater ^a weight 1 at 0 0;");
        fault(3, P + "tune abcdefgh bars 1 1;tune ^abcdefgh bars 1 1;");
        stands(P + "tune abcdefgh bars 1 1;tune abcdefgg bars 1 1;tune bbcdefgh bars 1 1;tune abcdefg bars 1 1;tune a bars 1 1;tune ab bars 1 1;");
        stands(P + "tune a bars 1 1;skater a weight 1 at 0 0;");
        stands(P + "skater a weight 1 at 0 0;tune a bars 1 1;");
        fault(3, P + "tune a bars 1 1;tune ^a\nbars 1 1;");
        fault(3, P + "skater s\nweight 1 at 0 0;skater ^s weight 1 at 0 0;");
        fault(3, P + "skater s weight 1 at 0 0;" + tunes(6, " bars 1 1;") + "skater ^s weight 1 at 0 0;");
        fault(3, P + "tune s bars 1 1;" + skaters(6, " weight 1 at 0 0;") + "tune ^s bars 1 1;");
        IceTunes x = stands(P + "tune a bars 1 1;");
        due.is("told of another POND", Due.tell(x, P + "tune a bars 1 1;"), 1);
    }

    // "a CELL told already (of cell; of plank; at its second N)"
    private void cellsToldAlready() {
        String p = "pond 2 by 2;";
        fault(3, p + "cell 1 0 ice 1;cell 1 ^0 ice 1;");
        fault(3, p + "cell 0 1 ice 0;cell 1 0 ice 0;cell 0 ^1 ice 0;");
        fault(3, p + "cell 0 0 ice 50;cell 0 ^0 ice 50;");
        fault(3, p + "plank at 1 1;plank at 1 ^1;");
        fault(3, p + "plank at 1 1;plank at 0 1;plank at 1 0;plank at 1 \n^1");
        stands(p + "cell 1 0 ice 1;plank at 1 0;skater s weight 1 at 1 0;skater t weight 1 at 1 0;");
        fault(3, p + "cell 1 0 ice 1;plank at 1 0;cell 1 ^0 ice 1;");
        fault(3, p + "plank at 1 0;cell 1 0 ice 1;plank at 1 ^0;");
        IceTunes x = stands(p + "cell 1 0 ice 1;plank at 1 0;");
        due.is("told of another POND", Due.tell(x, p + "cell 1 0 ice 1;plank at 1 0;"), 4);
    }

    private void grammarOfLines() {
        fault(2, "pond ^by 1;");
        fault(2, "pond 1 ^1;");
        fault(2, "pond 1 by ^by;");
        fault(2, "pond 1 by 1 ^1;");
        fault(2, P + "^;");
        fault(2, P + "^1;");
        fault(2, P + "^x;");
        fault(2, P + "^by;");
        fault(2, P + "^stay;");
        fault(2, P + "ice ^;");
        fault(2, P + "ice 1 ^2;");
        fault(2, P + "cell ^at 0 0 ice 1;");
        fault(2, P + "cell 0 ^ice 1;");
        fault(2, P + "cell 0 0 ^1;");
        fault(2, P + "cell 0 0 ice^;");
        fault(2, P + "plank ^0 0;");
        fault(2, P + "plank at ^at;");
        fault(2, P + "plank at 0^;");
        fault(2, P + "plank at 0 0 ^0;");
        fault(2, P + "tune ^1 bars 1 1;");
        fault(2, P + "tune ^;");
        fault(2, P + "tune a ^beat 1 1;");
        fault(2, P + "tune a bars ^a 1;");
        fault(2, P + "silence^;");
        fault(2, P + "skater ^weight 1 at 0 0;");
        fault(2, P + "skater s ^at 0 0;");
        fault(2, P + "skater s weight ^at 0 0;");
        fault(2, P + "skater s weight 1 ^0 0;");
        fault(2, P + "skater s weight 1 at ^stay;");
        fault(2, P + "skater s weight 1 at 0 ^stay;");
        fault(2, P + "skater s weight 1 at 0 0 ^up;");
        List<String> steps = List.of("stay", "north", "east", "south", "west");
        for (String word : WORDS) {
            if (!steps.contains(word)) {
                fault(2, P + "skater s weight 1 at 0 0 ^" + word + ";");
                fault(2, P + "skater s weight 1 at 0 0 stay ^" + word + " stay;");
            }
        }
        fault(2, P + "skater s weight 1 at 0 0 east ^0;");
    }

    private void grammarOfFormulas() {
        for (String sign : new String[] {"+", "-", "*", "/", "%", "<", ">", "=", " and ", " or "}) {
            stands(S + "1" + sign + "2;");
            fault(2, S + "1" + sign + "^;");
            fault(2, S + (sign.startsWith(" ") ? "^" + sign.substring(1) : "^" + sign) + "1;");
            fault(2, S + "1" + sign + "^+1;");
        }
        fault(2, S + "1<2^<3;");
        fault(2, S + "1=2^>3;");
        stands(S + "(1<2)<3;");
        stands(S + "1<2 and 2<3 or 3=4 and not 5>6;");
        fault(2, S + "1+^not 1;");
        fault(2, S + "1<^not 1;");
        stands(S + "1+(not 1);");
        stands(S + "1 and not 1;");
        fault(2, S + "1 ^not 1;");
        fault(2, S + "(^);");
        fault(2, S + "1^);");
        fault(2, S + "(1^;");
        fault(2, S + "(1)^(1);");
        fault(2, S + "^bars;");
        fault(2, S + "^x;");
        stands(S + "ice+beat+load+around+9999;");
    }

    // "Of the latest pond() what 0: its FAULT (0), 1: its place (NONE)"
    private void faultOfTheLatest() {
        IceTunes x = new IceTunes();
        due.is("no pond() yet", x.fault(0), 0);
        due.is("no place yet", x.fault(1), -1);
        Due.tell(x, "pond 1 by 1;ice A;");
        due.is("a FAULT", x.fault(0) * 100 + x.fault(1), 116);
        Due.tape(x, "pond 7");
        due.is("a TAPE is no pond() yet", x.fault(0) * 100 + x.fault(1), 116);
        x.pond();
        due.is("another FAULT", x.fault(0) * 100 + x.fault(1), 405);
        Due.tell(x, "^");
        due.is("a FAULT at 0", x.fault(0) * 100 + x.fault(1), 100);
        Due.tell(x, P);
        due.is("none now", x.fault(0), 0);
        due.is("no place now", x.fault(1), -1);
    }
}
