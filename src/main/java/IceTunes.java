/**
 * Ice by the note: a skating pond whose ice answers to the band, bar by bar.
 * ../shared/DOC.md says what each call answers; NOTES.md says how its open words are read here.
 */
public final class IceTunes {
    public static final int NONE = -1;

    private static final int MISSING = -2;
    private static final int TEXT_BYTES = 1600;
    private static final int FEED_NUMBERS = 5;
    private static final int SIDE = 5;
    private static final int CELLS = SIDE * SIDE;
    private static final int TUNES = 6;
    private static final int SKATERS = 6;
    private static final int THICKEST = 99;
    private static final int EVENING_BARS = 2000;
    private static final int HOLD_BARS = 20;
    private static final int BOXES = 3;
    private static final int THICKER = 9;
    private static final int DUEL_TUNES = 4;
    private static final int ROW_TUNES = 3;
    private static final int SIGHT_BARS = 36;
    private static final int LATER_MOST = 1000;
    private static final int LAST_TIME = 100000;

    private final byte[] tape = new byte[TEXT_BYTES];
    private int taped;
    // A text with a FAULT must leave the POND as it was: it is read into the draft, which takes the POND's part when all is well.
    private Pond told = new Pond();
    private Pond draft = new Pond();
    private final Reader reader = new Reader();
    private final Band band = new Band(told);
    private final History history = new History();
    private final Evening[] boxes = new Evening[BOXES];
    private final boolean[] kept = new boolean[BOXES];
    private final Sights sights = new Sights();
    private final Forecast forecast;
    private final Duel duels;
    private final Rows rows;
    private final int[] lying = new int[TUNES];
    private int lyingCount;
    private int time;

    public IceTunes() {
        for (int i = 0; i < BOXES; i++) {
            boxes[i] = new Evening();
        }
        // Asking needs an EVENING for each TUNE of the longest row, and one ahead of them.
        Evening[] desk = new Evening[TUNES + 1];
        for (int i = 0; i < desk.length; i++) {
            desk[i] = new Evening();
        }
        forecast = new Forecast(band, desk);
        duels = new Duel(band, desk);
        rows = new Rows(band, desk, sights);
        history.now().begin(told);
    }

    public int feed(int a, int b, int c, int d, int e) {
        if (taped > TEXT_BYTES - 4 * FEED_NUMBERS) {
            return NONE;
        }
        tapeNumber(a);
        tapeNumber(b);
        tapeNumber(c);
        tapeNumber(d);
        tapeNumber(e);
        return taped;
    }

    private void tapeNumber(int number) {
        for (int shift = 24; shift >= 0 && taped < TEXT_BYTES; shift -= 8) {
            tape[taped] = (byte) (number >> shift);
            taped++;
        }
    }

    public int end(int n) {
        if (n < 0 || n > taped) {
            return NONE;
        }
        taped = n;
        return n;
    }

    public int pond() {
        if (!reader.read(tape, taped, draft)) {
            return NONE;
        }
        Pond old = told;
        told = draft;
        draft = old;
        band.pond = told;
        taped = 0;
        history.forget();
        history.now().begin(told);
        sights.clear();
        lyingCount = 0;
        for (int i = 0; i < BOXES; i++) {
            kept[i] = false;
        }
        return told.across * told.down;
    }

    public int fault(int what) {
        switch (what) {
            case 0:
                return reader.fault;
            case 1:
                return reader.place;
            default:
                return NONE;
        }
    }

    public int ice(int x, int y) {
        if (!told.hasCell(x, y)) {
            return NONE;
        }
        return history.now().ice[x + SIDE * y];
    }

    public int load(int x, int y) {
        if (!told.hasCell(x, y)) {
            return NONE;
        }
        return history.now().loadOf(x + SIDE * y, told);
    }

    public int skater(int skater, int what) {
        if (!told.hasSkater(skater)) {
            return MISSING;
        }
        Evening now = history.now();
        switch (what) {
            case 0:
                return now.spot[skater] % SIDE;
            case 1:
                return now.spot[skater] / SIDE;
            case 2:
                return now.isUp(skater) ? 1 : 0;
            case 3:
                return now.inBar[skater];
            case 4:
                return now.inTune[skater];
            case 5:
                return now.inBeat[skater];
            default:
                return MISSING;
        }
    }

    public int play(int tune) {
        if (!told.hasTune(tune) || history.now().bars + told.bars[tune] > EVENING_BARS) {
            return NONE;
        }
        Evening next = history.goOn();
        band.playTune(next, tune);
        return next.countUp(told);
    }

    public int hold(int bars) {
        if (bars < 0 || bars > HOLD_BARS || history.now().bars + bars > EVENING_BARS) {
            return NONE;
        }
        Evening next = history.goOn();
        band.keepSilence(next, bars);
        return next.countUp(told);
    }

    public boolean undo() {
        return history.takeBack();
    }

    public boolean redo() {
        return history.doAgain();
    }

    public int order(int tunes) {
        lyingCount = 0;
        if (!told.hasTunes(tunes)) {
            return NONE;
        }
        int in = forecast.fewestIn(history.now(), tunes);
        layDown(forecast.best, Integer.bitCount(tunes));
        return in;
    }

    public int duel(int tunes, int n, int what) {
        if (tunes == 0 || !told.hasTunes(tunes) || n < 1 || n > DUEL_TUNES || what < 0 || what > 1) {
            return NONE;
        }
        int up = duels.mostUp(history.now(), tunes, n);
        return what == 0 ? up : duels.choice;
    }

    public int planks(int tune) {
        lyingCount = 0;
        if (!told.hasTune(tune)) {
            return MISSING;
        }
        int count = forecast.fewestPlanks(history.now(), tune);
        layDown(forecast.best, count);
        return count;
    }

    public int hush(int tune, int what) {
        if (!told.hasTune(tune) || what < 0 || what > 1) {
            return NONE;
        }
        int bars = forecast.bestSilence(history.now(), tune);
        return what == 0 ? bars : forecast.fewest;
    }

    public int breaks(int tune, int d) {
        if (!told.hasTune(tune) || d < -THICKER || d > THICKER) {
            return MISSING;
        }
        return forecast.firstBreak(history.now(), tune, d);
    }

    public int lies(int i) {
        return i < 0 || i >= lyingCount ? NONE : lying[i];
    }

    private void layDown(int[] numbers, int count) {
        lyingCount = 0;
        for (int i = 0; i < count && i < numbers.length && i < lying.length; i++) {
            lying[i] = numbers[i];
            lyingCount++;
        }
    }

    public int sight(int bar, int x, int y, int least, int most) {
        if (!isSightBar(bar) || !told.hasCell(x, y) || least < 0 || most < least || most > THICKEST) {
            return NONE;
        }
        return sights.tellIce(bar, x + SIDE * y, least, most, time);
    }

    public int seen(int bar, int skater, boolean up) {
        if (!isSightBar(bar) || !told.hasSkater(skater)) {
            return NONE;
        }
        return sights.tellSkater(bar, skater, up, time);
    }

    private static boolean isSightBar(int bar) {
        return bar >= 1 && bar <= SIGHT_BARS;
    }

    public boolean untell(int sight) {
        return sights.takeAway(sight, time);
    }

    public int later(int by) {
        if (by < 0 || by > LATER_MOST || time + by > LAST_TIME) {
            return NONE;
        }
        time += by;
        return time;
    }

    public int asked(int n, int k) {
        lyingCount = 0;
        if (n < 1 || n > ROW_TUNES) {
            return NONE;
        }
        int count = rows.count(n, k);
        if (count > 0) {
            layDown(rows.first, n);
        }
        return count;
    }

    public int sure(int n, int place, int k) {
        if (n < 1 || n > ROW_TUNES || place < 0 || place >= n) {
            return NONE;
        }
        return rows.count(n, k) == 0 ? NONE : rows.only[place];
    }

    public int image(int box) {
        if (box < 0 || box >= BOXES) {
            return NONE;
        }
        boxes[box].copy(history.now());
        kept[box] = true;
        return boxes[box].bars;
    }

    public int back(int box) {
        if (box < 0 || box >= BOXES || !kept[box]) {
            return NONE;
        }
        history.forget();
        history.now().copy(boxes[box]);
        return boxes[box].bars;
    }

    public int about(int what) {
        switch (what) {
            case 0:
                return told.across;
            case 1:
                return told.down;
            case 2:
                return told.tunes;
            case 3:
                return told.skaters;
            case 4:
                return told.planks;
            case 5:
                return history.now().bars;
            case 6:
                return history.done;
            case 7:
                return history.undone;
            case 8:
                return sights.count;
            case 9:
                return time;
            case 10:
                return taped;
            case 11:
                return told.units;
            case 12:
                return lyingCount;
            case 13:
                return history.now().countUp(told);
            default:
                return NONE;
        }
    }

    /** What a text tells. A CELL's number is x + 5 * y, however wide the POND is. */
    private static final class Pond {
        private static final int MOST_STEPS = 8;
        private static final int USUAL_ICE = 50;
        private static final int SILENCE = TUNES;
        // A unit makes one code, and so does what joins two (90 of each at most); a not needs 3 of the text's bytes (533 at most).
        private static final int CODES = 800;

        private int across;
        private int down;
        private int allIce;
        private final int[] cellIce = new int[CELLS];
        private final boolean[] planked = new boolean[CELLS];
        private int planks;
        private int tunes;
        private final int[] bars = new int[TUNES];
        private boolean hasSilence;
        private int skaters;
        private final int[] weight = new int[SKATERS];
        private final int[] home = new int[SKATERS];
        private final byte[] steps = new byte[SKATERS * MOST_STEPS];
        private final int[] stepCount = new int[SKATERS];
        private int units;
        // Formulas stand with what joins behind what is joined, so that they are worked out without recursion.
        private final int[] code = new int[CODES];
        private int codes;
        private final int[] codeFrom = new int[TUNES + 1];
        private final int[] codeTo = new int[TUNES + 1];

        private Pond() {
            clear();
        }

        private void clear() {
            across = 0;
            down = 0;
            allIce = NONE;
            for (int i = 0; i < CELLS; i++) {
                cellIce[i] = NONE;
                planked[i] = false;
            }
            planks = 0;
            tunes = 0;
            hasSilence = false;
            skaters = 0;
            units = 0;
            codes = 0;
            for (int i = 0; i <= TUNES; i++) {
                codeFrom[i] = 0;
                codeTo[i] = 0;
            }
        }

        private boolean hasCell(int x, int y) {
            return x >= 0 && x < across && y >= 0 && y < down;
        }

        private boolean hasTune(int tune) {
            return tune >= 0 && tune < tunes;
        }

        private boolean hasTunes(int set) {
            return set >= 0 && set < 1 << tunes;
        }

        private boolean hasSkater(int skater) {
            return skater >= 0 && skater < skaters;
        }

        private int iceAtFirst(int cell) {
            if (cellIce[cell] != NONE) {
                return cellIce[cell];
            }
            return allIce != NONE ? allIce : USUAL_ICE;
        }

        private int stepOf(int skater, int bar) {
            int count = stepCount[skater];
            return count <= 0 ? 0 : steps[skater * MOST_STEPS + bar % count];
        }

        private int beside(int cell, int step) {
            int x = cell % SIDE;
            int y = cell / SIDE;
            switch (step + Tokens.STAY) {
                case Tokens.NORTH:
                    y--;
                    break;
                case Tokens.EAST:
                    x++;
                    break;
                case Tokens.SOUTH:
                    y++;
                    break;
                case Tokens.WEST:
                    x--;
                    break;
                default:
                    break;
            }
            return hasCell(x, y) ? x + SIDE * y : cell;
        }
    }

    /** Cuts a text into TOKENS, one at a time. A sign's kind is its byte. */
    private static final class Tokens {
        private static final int END = 0;
        private static final int BAD = 1;
        private static final int NUMBER = 2;
        private static final int NAME = 3;
        private static final int POND = 128;
        private static final int BY = 129;
        private static final int CELL = 130;
        private static final int PLANK = 131;
        private static final int AT = 132;
        private static final int TUNE = 133;
        private static final int BARS = 134;
        private static final int SILENCE = 135;
        private static final int SKATER = 136;
        private static final int WEIGHT = 137;
        private static final int STAY = 138;
        private static final int NORTH = 139;
        private static final int EAST = 140;
        private static final int SOUTH = 141;
        private static final int WEST = 142;
        private static final int OR = 143;
        private static final int AND = 144;
        private static final int NOT = 145;
        private static final int ICE = 146;
        private static final int BEAT = 147;
        private static final int LOAD = 148;
        private static final int AROUND = 149;
        // The words of the kinds from POND on, in their order, each filled up with blanks to eight.
        private static final String WORDS = "pond    by      cell    plank   at      tune    bars    silence skater  weight  stay    north   east    south   west    or      and     not     ice     beat    load    around  ";
        private static final String SIGNS = ";()<>=+-*/%";
        private static final int WORD_LETTERS = 8;
        private static final int NUMBER_DIGITS = 4;

        private byte[] text;
        private int length;
        private int kind;
        private int start;
        private int stop;
        private int value;

        private void begin(byte[] newText, int newLength) {
            text = newText;
            length = newText == null ? 0 : Math.min(newLength, newText.length);
            stop = 0;
            next();
        }

        private void next() {
            while (stop < length && (text[stop] == ' ' || text[stop] == '\n')) {
                stop++;
            }
            start = stop;
            if (start >= length) {
                kind = END;
            } else if (isLetter(start)) {
                takeWord();
            } else if (isDigit(start)) {
                takeNumber();
            } else {
                stop++;
                kind = SIGNS.indexOf((char) (text[start] & 255)) >= 0 ? text[start] : BAD;
            }
        }

        private boolean isLetter(int at) {
            return at < length && text[at] >= 'a' && text[at] <= 'z';
        }

        private boolean isDigit(int at) {
            return at < length && text[at] >= '0' && text[at] <= '9';
        }

        private void takeWord() {
            while (stop < length && isLetter(stop)) {
                stop++;
            }
            kind = stop - start > WORD_LETTERS ? BAD : kindOfWord();
        }

        private int kindOfWord() {
            for (int from = 0; from + WORD_LETTERS <= WORDS.length(); from += WORD_LETTERS) {
                int same = 0;
                while (same < WORD_LETTERS && WORDS.charAt(from + same) == (start + same < stop ? text[start + same] : ' ')) {
                    same++;
                }
                if (same == WORD_LETTERS) {
                    return POND + from / WORD_LETTERS;
                }
            }
            return NAME;
        }

        private void takeNumber() {
            value = 0;
            while (stop < length && isDigit(stop)) {
                // Digits of a number too long to be one are passed over, so the value can't wrap.
                if (stop - start < NUMBER_DIGITS) {
                    value = value * 10 + text[stop] - '0';
                }
                stop++;
            }
            kind = stop - start > NUMBER_DIGITS || isLetter(stop) ? BAD : NUMBER;
        }

        private boolean isSameWord(int from, int letters) {
            if (stop - start != letters) {
                return false;
            }
            for (int i = 0; i < letters && from + i < length && start + i < length; i++) {
                if (text[from + i] != text[start + i]) {
                    return false;
                }
            }
            return true;
        }
    }

    /**
     * Reads a text into a Pond. What is wrong is looked for TOKEN by TOKEN, before the next one is cut,
     * so the first FAULT found is the first by its place.
     */
    private static final class Reader {
        private static final int MISPLACED = 2;
        private static final int TOLD_ALREADY = 3;
        private static final int BAD_NUMBER = 4;
        private static final int ALL_UNITS = 90;
        private static final int FORMULA_UNITS = 30;
        private static final int DEEPEST = 7;
        private static final int MOST_BARS = 12;

        private final Tokens tokens = new Tokens();
        private Pond pond;
        private int fault;
        private int place = NONE;
        private int number;
        private int cell;
        private int formulaUnits;
        private final int[] nameFrom = new int[TUNES + SKATERS];
        private final int[] nameLetters = new int[TUNES + SKATERS];

        private boolean read(byte[] text, int length, Pond into) {
            fault = 0;
            place = NONE;
            pond = into;
            pond.clear();
            tokens.begin(text, length);
            boolean fine = true;
            for (int i = 0; i < TEXT_BYTES && fine && tokens.kind != Tokens.END; i++) {
                int sort = tokens.kind;
                if (!mayStand(sort)) {
                    return fail(MISPLACED);
                }
                tokens.next();
                switch (sort) {
                    case Tokens.POND:
                        fine = readSize();
                        break;
                    case Tokens.ICE:
                        fine = readAllIce();
                        break;
                    case Tokens.CELL:
                        fine = readCell();
                        break;
                    case Tokens.PLANK:
                        fine = readPlank();
                        break;
                    case Tokens.TUNE:
                        fine = readTune();
                        break;
                    case Tokens.SILENCE:
                        fine = readSilence();
                        break;
                    default:
                        fine = readSkater();
                        break;
                }
                fine = fine && take(';');
            }
            return fine;
        }

        private boolean fail(int why) {
            fault = tokens.kind == Tokens.BAD ? 1 : why;
            place = tokens.start;
            return false;
        }

        private boolean take(int kind) {
            if (tokens.kind != kind) {
                return fail(MISPLACED);
            }
            tokens.next();
            return true;
        }

        private boolean takeNumber(int least, int most) {
            if (tokens.kind != Tokens.NUMBER) {
                return fail(MISPLACED);
            }
            if (tokens.value < least || tokens.value > most) {
                return fail(BAD_NUMBER);
            }
            number = tokens.value;
            tokens.next();
            return true;
        }

        private boolean mayStand(int sort) {
            boolean begun = pond.across > 0;
            switch (sort) {
                case Tokens.POND:
                    return !begun;
                case Tokens.ICE:
                    return begun && pond.allIce == NONE;
                case Tokens.CELL:
                case Tokens.PLANK:
                    return begun;
                case Tokens.TUNE:
                    return begun && pond.tunes < TUNES;
                case Tokens.SILENCE:
                    return begun && !pond.hasSilence;
                case Tokens.SKATER:
                    return begun && pond.skaters < SKATERS;
                default:
                    return false;
            }
        }

        private boolean readSize() {
            if (!takeNumber(1, SIDE)) {
                return false;
            }
            pond.across = number;
            if (!take(Tokens.BY) || !takeNumber(1, SIDE)) {
                return false;
            }
            pond.down = number;
            return true;
        }

        private boolean readAllIce() {
            if (!takeNumber(0, THICKEST)) {
                return false;
            }
            pond.allIce = number;
            return true;
        }

        private boolean readCell() {
            if (!takePlace(Tokens.CELL) || !take(Tokens.ICE) || !takeNumber(0, THICKEST)) {
                return false;
            }
            pond.cellIce[cell] = number;
            return true;
        }

        private boolean readPlank() {
            if (!take(Tokens.AT) || !takePlace(Tokens.PLANK)) {
                return false;
            }
            pond.planked[cell] = true;
            pond.planks++;
            return true;
        }

        private boolean takePlace(int sort) {
            if (!takeNumber(0, pond.across - 1)) {
                return false;
            }
            int x = number;
            // Whether the CELL was told already is asked at its second N, which must be cut still.
            if (tokens.kind == Tokens.NUMBER && pond.hasCell(x, tokens.value) && isToldAlready(sort, x + SIDE * tokens.value)) {
                return fail(TOLD_ALREADY);
            }
            if (!takeNumber(0, pond.down - 1)) {
                return false;
            }
            cell = x + SIDE * number;
            return true;
        }

        private boolean isToldAlready(int sort, int at) {
            switch (sort) {
                case Tokens.CELL:
                    return pond.cellIce[at] != NONE;
                case Tokens.PLANK:
                    return pond.planked[at];
                default:
                    return false;
            }
        }

        private boolean takeName(int first, int count) {
            if (tokens.kind != Tokens.NAME) {
                return fail(MISPLACED);
            }
            for (int i = first; i < first + count; i++) {
                if (tokens.isSameWord(nameFrom[i], nameLetters[i])) {
                    return fail(TOLD_ALREADY);
                }
            }
            nameFrom[first + count] = tokens.start;
            nameLetters[first + count] = tokens.stop - tokens.start;
            tokens.next();
            return true;
        }

        private boolean readTune() {
            int tune = pond.tunes;
            if (!takeName(0, tune) || !take(Tokens.BARS) || !takeNumber(1, MOST_BARS)) {
                return false;
            }
            pond.bars[tune] = number;
            pond.tunes++;
            pond.codeFrom[tune] = pond.codes;
            formulaUnits = 0;
            boolean fine = readFormula(0);
            pond.codeTo[tune] = pond.codes;
            return fine;
        }

        private boolean readSilence() {
            pond.hasSilence = true;
            pond.codeFrom[Pond.SILENCE] = pond.codes;
            formulaUnits = 0;
            boolean fine = readFormula(0);
            pond.codeTo[Pond.SILENCE] = pond.codes;
            return fine;
        }

        private boolean readSkater() {
            int skater = pond.skaters;
            if (!takeName(TUNES, skater) || !take(Tokens.WEIGHT) || !takeNumber(1, THICKEST)) {
                return false;
            }
            pond.weight[skater] = number;
            if (!take(Tokens.AT) || !takePlace(Tokens.SKATER)) {
                return false;
            }
            pond.home[skater] = cell;
            int count = 0;
            while (count < Pond.MOST_STEPS && tokens.kind >= Tokens.STAY && tokens.kind <= Tokens.WEST) {
                pond.steps[skater * Pond.MOST_STEPS + count] = (byte) (tokens.kind - Tokens.STAY);
                count++;
                tokens.next();
            }
            pond.stepCount[skater] = count;
            pond.skaters++;
            return true;
        }

        private void putCode(int code) {
            if (pond.codes < Pond.CODES) {
                pond.code[pond.codes] = code;
                pond.codes++;
            }
        }

        // What joins is put behind what it joins. Each loop has another unit a round, so the limit of units ends it ahead of its own.
        private boolean readFormula(int depth) {
            boolean fine = readBoth(depth);
            for (int i = 0; i < FORMULA_UNITS && fine && tokens.kind == Tokens.OR; i++) {
                tokens.next();
                fine = readBoth(depth);
                putCode(-Tokens.OR);
            }
            return fine;
        }

        private boolean readBoth(int depth) {
            boolean fine = readOne(depth);
            for (int i = 0; i < FORMULA_UNITS && fine && tokens.kind == Tokens.AND; i++) {
                tokens.next();
                fine = readOne(depth);
                putCode(-Tokens.AND);
            }
            return fine;
        }

        private boolean readOne(int depth) {
            if (tokens.kind == Tokens.NOT) {
                if (depth >= DEEPEST) {
                    return fail(MISPLACED);
                }
                tokens.next();
                boolean fine = readOne(depth + 1);
                putCode(-Tokens.NOT);
                return fine;
            }
            boolean fine = readSum(depth);
            int sign = tokens.kind;
            if (fine && (sign == '<' || sign == '>' || sign == '=')) {
                tokens.next();
                fine = readSum(depth);
                putCode(-sign);
            }
            return fine;
        }

        private boolean readSum(int depth) {
            boolean fine = readTerm(depth);
            for (int i = 0; i < FORMULA_UNITS && fine && (tokens.kind == '+' || tokens.kind == '-'); i++) {
                int sign = tokens.kind;
                tokens.next();
                fine = readTerm(depth);
                putCode(-sign);
            }
            return fine;
        }

        private boolean readTerm(int depth) {
            boolean fine = readUnit(depth);
            for (int i = 0; i < FORMULA_UNITS && fine && isTermSign(tokens.kind); i++) {
                int sign = tokens.kind;
                tokens.next();
                fine = readUnit(depth);
                putCode(-sign);
            }
            return fine;
        }

        private static boolean isTermSign(int kind) {
            return kind == '*' || kind == '/' || kind == '%';
        }

        private boolean readUnit(int depth) {
            if (pond.units >= ALL_UNITS || formulaUnits >= FORMULA_UNITS) {
                return fail(MISPLACED);
            }
            pond.units++;
            formulaUnits++;
            switch (tokens.kind) {
                case Tokens.NUMBER:
                    putCode(tokens.value);
                    break;
                case Tokens.ICE:
                case Tokens.BEAT:
                case Tokens.LOAD:
                case Tokens.AROUND:
                    putCode(-tokens.kind);
                    break;
                case '(':
                    if (depth >= DEEPEST) {
                        return fail(MISPLACED);
                    }
                    tokens.next();
                    return readFormula(depth + 1) && take(')');
                default:
                    return fail(MISPLACED);
            }
            tokens.next();
            return true;
        }
    }

    /** How an EVENING stands: its BARS, its ICE, its SKATERS. */
    private static final class Evening {
        private int bars;
        private int in;
        private final int[] ice = new int[CELLS];
        private final int[] spot = new int[SKATERS];
        private final int[] inBar = new int[SKATERS];
        private final int[] inTune = new int[SKATERS];
        private final int[] inBeat = new int[SKATERS];

        private void begin(Pond pond) {
            bars = 0;
            in = 0;
            for (int i = 0; i < CELLS; i++) {
                ice[i] = pond.iceAtFirst(i);
            }
            for (int i = 0; i < SKATERS; i++) {
                spot[i] = i < pond.skaters ? pond.home[i] : 0;
                inBar[i] = NONE;
                inTune[i] = NONE;
                inBeat[i] = NONE;
            }
        }

        private void copy(Evening other) {
            bars = other.bars;
            in = other.in;
            System.arraycopy(other.ice, 0, ice, 0, CELLS);
            System.arraycopy(other.spot, 0, spot, 0, SKATERS);
            System.arraycopy(other.inBar, 0, inBar, 0, SKATERS);
            System.arraycopy(other.inTune, 0, inTune, 0, SKATERS);
            System.arraycopy(other.inBeat, 0, inBeat, 0, SKATERS);
        }

        private boolean isUp(int skater) {
            return inBar[skater] == NONE;
        }

        private int countUp(Pond pond) {
            return pond.skaters - in;
        }

        private int loadOf(int cell, Pond pond) {
            int sum = 0;
            for (int i = 0; i < pond.skaters; i++) {
                if (isUp(i) && spot[i] == cell) {
                    sum += pond.weight[i];
                }
            }
            return sum;
        }

        private void thicken(int by) {
            for (int i = 0; i < CELLS; i++) {
                ice[i] = Math.max(0, Math.min(THICKEST, ice[i] + by));
            }
        }
    }

    /** Plays BARS upon an EVENING. */
    private static final class Band {
        private static final int STACK = 32;

        private Pond pond;
        private final int[] loads = new int[CELLS];
        private final int[] nextIce = new int[CELLS];
        private final int[] stack = new int[STACK];
        private int ice;
        private int beat;
        private int load;
        private int around;

        private Band(Pond itsPond) {
            pond = itsPond;
        }

        private void playTune(Evening evening, int tune) {
            for (int i = 0; i < pond.bars[tune]; i++) {
                playBar(evening, tune, i);
            }
        }

        private void keepSilence(Evening evening, int bars) {
            for (int i = 0; i < bars; i++) {
                playBar(evening, NONE, i);
            }
        }

        private boolean playBar(Evening evening, int tune, int beatNow) {
            stepAll(evening);
            freeze(evening, tune, beatNow);
            boolean broke = breakCells(evening, tune, beatNow);
            evening.bars++;
            return broke;
        }

        private void stepAll(Evening evening) {
            for (int i = 0; i < CELLS; i++) {
                loads[i] = 0;
            }
            for (int i = 0; i < pond.skaters; i++) {
                if (evening.isUp(i)) {
                    int cell = pond.beside(evening.spot[i], pond.stepOf(i, evening.bars));
                    evening.spot[i] = cell;
                    loads[cell] += pond.weight[i];
                }
            }
        }

        private void freeze(Evening evening, int tune, int beatNow) {
            int formula = tune == NONE ? Pond.SILENCE : tune;
            int from = pond.codeFrom[formula];
            int to = pond.codeTo[formula];
            beat = beatNow;
            for (int y = 0; y < pond.down; y++) {
                for (int x = 0; x < pond.across; x++) {
                    int cell = x + SIDE * y;
                    ice = evening.ice[cell];
                    load = loads[cell];
                    around = iceAround(evening, x, y);
                    // No more than this is needed either way, and the sum can't wrap.
                    int more = Math.max(-THICKEST, Math.min(THICKEST, workOut(from, to)));
                    nextIce[cell] = Math.max(0, Math.min(THICKEST, ice + more));
                }
            }
            for (int y = 0; y < pond.down; y++) {
                System.arraycopy(nextIce, SIDE * y, evening.ice, SIDE * y, pond.across);
            }
        }

        private int iceAround(Evening evening, int x, int y) {
            int cell = x + SIDE * y;
            int sum = 0;
            if (y > 0) {
                sum += evening.ice[cell - SIDE];
            }
            if (x > 0) {
                sum += evening.ice[cell - 1];
            }
            if (x + 1 < pond.across) {
                sum += evening.ice[cell + 1];
            }
            if (y + 1 < pond.down) {
                sum += evening.ice[cell + SIDE];
            }
            return sum;
        }

        private int workOut(int from, int to) {
            int top = 0;
            for (int i = from; i < to && top < STACK; i++) {
                int code = pond.code[i];
                if (code >= 0) {
                    stack[top] = code;
                    top++;
                } else if (code <= -Tokens.ICE) {
                    stack[top] = look(code);
                    top++;
                } else {
                    top -= code == -Tokens.NOT ? 0 : 1;
                    if (top < 1) {
                        return 0;
                    }
                    stack[top - 1] = join(code, stack[top - 1], stack[top]);
                }
            }
            return top == 1 ? stack[0] : 0;
        }

        private int look(int code) {
            switch (-code) {
                case Tokens.ICE:
                    return ice;
                case Tokens.BEAT:
                    return beat;
                case Tokens.LOAD:
                    return load;
                default:
                    return around;
            }
        }

        private static int join(int code, int a, int b) {
            switch (-code) {
                case '+':
                    return a + b;
                case '-':
                    return a - b;
                case '*':
                    return a * b;
                case '/':
                    return b == 0 ? 0 : a / b;
                case '%':
                    return b == 0 ? 0 : a % b;
                case '<':
                    return a < b ? 1 : 0;
                case '>':
                    return a > b ? 1 : 0;
                case '=':
                    return a == b ? 1 : 0;
                case Tokens.AND:
                    return a != 0 && b != 0 ? 1 : 0;
                case Tokens.OR:
                    return a != 0 || b != 0 ? 1 : 0;
                default:
                    return a == 0 ? 1 : 0;
            }
        }

        private boolean isTooHeavy(Evening evening, int cell) {
            return !pond.planked[cell] && loads[cell] > evening.ice[cell];
        }

        private boolean breakCells(Evening evening, int tune, int beatNow) {
            boolean broke = false;
            for (int i = 0; i < CELLS; i++) {
                if (isTooHeavy(evening, i)) {
                    broke = true;
                    evening.ice[i] = 0;
                    sink(evening, i, tune, beatNow);
                }
            }
            return broke;
        }

        private void sink(Evening evening, int cell, int tune, int beatNow) {
            for (int i = 0; i < pond.skaters; i++) {
                if (evening.isUp(i) && evening.spot[i] == cell) {
                    evening.inBar[i] = evening.bars;
                    evening.inTune[i] = tune;
                    evening.inBeat[i] = beatNow;
                    evening.in++;
                }
            }
        }
    }

    /** The EVENING now, with those that ACTS have left behind or were taken back from. */
    private static final class History {
        private static final int ACTS = 40;
        private static final int SLOTS = ACTS + 1;

        private final Evening[] slots = new Evening[SLOTS];
        private int first;
        private int done;
        private int undone;

        private History() {
            for (int i = 0; i < SLOTS; i++) {
                slots[i] = new Evening();
            }
        }

        private Evening now() {
            return slots[(first + done) % SLOTS];
        }

        private Evening goOn() {
            Evening old = now();
            undone = 0;
            if (done < ACTS) {
                done++;
            } else {
                first = (first + 1) % SLOTS;
            }
            now().copy(old);
            return now();
        }

        private boolean takeBack() {
            if (done == 0) {
                return false;
            }
            done--;
            undone++;
            return true;
        }

        private boolean doAgain() {
            if (undone == 0) {
                return false;
            }
            done++;
            undone--;
            return true;
        }

        private void forget() {
            first = 0;
            done = 0;
            undone = 0;
        }
    }

    /** SIGHTS, kept when they are UNTOLD, too: earlier times still know them. */
    private static final class Sights {
        private static final int MOST = 30;

        private int count;
        private final int[] bar = new int[MOST];
        private final int[] cell = new int[MOST];
        private final int[] skater = new int[MOST];
        private final int[] least = new int[MOST];
        private final int[] most = new int[MOST];
        private final int[] toldAt = new int[MOST];
        private final int[] untoldAt = new int[MOST];

        private void clear() {
            count = 0;
        }

        private int tellIce(int atBar, int ofCell, int from, int to, int time) {
            if (count >= MOST) {
                return NONE;
            }
            cell[count] = ofCell;
            skater[count] = NONE;
            return tell(atBar, from, to, time);
        }

        private int tellSkater(int atBar, int who, boolean up, int time) {
            if (count >= MOST) {
                return NONE;
            }
            cell[count] = NONE;
            skater[count] = who;
            int isUp = up ? 1 : 0;
            return tell(atBar, isUp, isUp, time);
        }

        private int tell(int atBar, int from, int to, int time) {
            bar[count] = atBar;
            least[count] = from;
            most[count] = to;
            toldAt[count] = time;
            untoldAt[count] = NONE;
            count++;
            return count - 1;
        }

        private boolean takeAway(int sight, int time) {
            if (sight < 0 || sight >= count || untoldAt[sight] != NONE) {
                return false;
            }
            untoldAt[sight] = time;
            return true;
        }

        private boolean isKnown(int sight, int k) {
            return toldAt[sight] <= k && (untoldAt[sight] == NONE || untoldAt[sight] > k);
        }

        private int lastBar(int k) {
            int last = 0;
            for (int i = 0; i < count; i++) {
                if (isKnown(i, k)) {
                    last = Math.max(last, bar[i]);
                }
            }
            return last;
        }

        private boolean areSo(Evening evening, int k) {
            for (int i = 0; i < count; i++) {
                if (bar[i] == evening.bars && isKnown(i, k) && !isSo(i, evening)) {
                    return false;
                }
            }
            return true;
        }

        private boolean isSo(int sight, Evening evening) {
            int was;
            if (skater[sight] != NONE) {
                was = evening.isUp(skater[sight]) ? 1 : 0;
            } else {
                was = evening.ice[cell[sight]];
            }
            return was >= least[sight] && was <= most[sight];
        }
    }

    /** What one band alone would do: ORDER, PLANKS, HUSH, BREAK. */
    private static final class Forecast {
        private static final int MORE_PLANKS = 2;
        private static final int HUSH_BARS = 8;

        private final Band band;
        private final Evening[] desk;
        private final int[] row = new int[TUNES];
        private final int[] best = new int[TUNES];
        private int fewest;

        private Forecast(Band itsBand, Evening[] itsDesk) {
            band = itsBand;
            desk = itsDesk;
        }

        private int fewestIn(Evening now, int tunes) {
            fewest = SKATERS + 1;
            desk[0].copy(now);
            arrange(0, tunes);
            return fewest;
        }

        // Nobody comes out again: what has as many IN as the best can't be better, and one with nobody new IN ends the search.
        private void arrange(int place, int left) {
            Evening here = desk[place];
            if (left == 0 || place >= TUNES) {
                fewest = here.in;
                System.arraycopy(row, 0, best, 0, TUNES);
                return;
            }
            for (int i = 0; i < TUNES && desk[0].in < fewest; i++) {
                if ((left >> i & 1) == 1) {
                    row[place] = i;
                    desk[place + 1].copy(here);
                    band.playTune(desk[place + 1], i);
                    if (desk[place + 1].in < fewest) {
                        arrange(place + 1, left & ~(1 << i));
                    }
                }
            }
        }

        // Planks only keep CELLS from breaking. So a set is enough just if it has every CELL that is too weak at some BAR
        // of an EVENING in which nothing breaks: there is one fewest set.
        private int fewestPlanks(Evening now, int tune) {
            Evening here = desk[0];
            here.copy(now);
            int weak = 0;
            for (int i = 0; i < band.pond.bars[tune]; i++) {
                band.stepAll(here);
                band.freeze(here, tune, i);
                here.bars++;
                for (int c = 0; c < CELLS; c++) {
                    if (band.isTooHeavy(here, c)) {
                        weak |= 1 << c;
                    }
                }
            }
            int count = Integer.bitCount(weak);
            if (count > MORE_PLANKS) {
                return NONE;
            }
            listCells(weak);
            return count;
        }

        private void listCells(int cells) {
            int count = 0;
            for (int c = 0; c < CELLS && count < MORE_PLANKS; c++) {
                if ((cells >> c & 1) == 1) {
                    best[count] = c;
                    count++;
                }
            }
        }

        private int bestSilence(Evening now, int tune) {
            int silence = 0;
            fewest = SKATERS + 1;
            desk[0].copy(now);
            for (int i = 0; i <= HUSH_BARS; i++) {
                desk[1].copy(desk[0]);
                band.playTune(desk[1], tune);
                if (desk[1].in < fewest) {
                    fewest = desk[1].in;
                    silence = i;
                }
                band.playBar(desk[0], NONE, i);
            }
            return silence;
        }

        private int firstBreak(Evening now, int tune, int thicker) {
            Evening here = desk[0];
            here.copy(now);
            here.thicken(thicker);
            for (int i = 0; i < band.pond.bars[tune]; i++) {
                if (band.playBar(here, tune, i)) {
                    return i;
                }
            }
            return NONE;
        }
    }

    /** The band and its rival by turns. */
    private static final class Duel {
        private final Band band;
        private final Evening[] desk;
        private int set;
        private int turns;
        private int choice;

        private Duel(Band itsBand, Evening[] itsDesk) {
            band = itsBand;
            desk = itsDesk;
        }

        private int mostUp(Evening now, int tunes, int n) {
            set = tunes;
            turns = n;
            choice = NONE;
            desk[0].copy(now);
            return chooseMost(0, 0, now.countUp(band.pond));
        }

        // From least down and from most up it is all the same to those who chose before, so the search stops there;
        // and nobody comes UP again. Only better ones are taken, so the first of like ones stays.
        private int chooseMost(int turn, int least, int most) {
            int best = NONE;
            for (int i = 0; i < TUNES && best < most; i++) {
                if ((set >> i & 1) == 1) {
                    int up = tryTune(turn, i, Math.max(least, best), most);
                    if (up > best) {
                        best = up;
                        choice = turn == 0 ? i : choice;
                    }
                }
            }
            return best;
        }

        private int chooseLeast(int turn, int least, int most) {
            int best = SKATERS + 1;
            for (int i = 0; i < TUNES && best > least; i++) {
                if ((set >> i & 1) == 1) {
                    best = Math.min(best, tryTune(turn, i, least, Math.min(most, best)));
                }
            }
            return best;
        }

        private int tryTune(int turn, int tune, int least, int most) {
            if (turn + 1 >= desk.length) {
                return 0;
            }
            Evening next = desk[turn + 1];
            next.copy(desk[turn]);
            band.playTune(next, tune);
            int up = next.countUp(band.pond);
            if (turn + 1 >= turns || up <= least) {
                return up;
            }
            return turn % 2 == 0 ? chooseLeast(turn + 1, least, most) : chooseMost(turn + 1, least, most);
        }
    }

    /** ASKED: the rows of TUNES by which all SIGHTS known at k are so. */
    private static final class Rows {
        private final Band band;
        private final Evening[] desk;
        private final Sights sights;
        private final int[] row = new int[ROW_TUNES];
        private final int[] first = new int[ROW_TUNES];
        private final int[] only = new int[ROW_TUNES];
        private int found;
        private int tunes;
        private int known;
        private int lastBar;

        private Rows(Band itsBand, Evening[] itsDesk, Sights itsSights) {
            band = itsBand;
            desk = itsDesk;
            sights = itsSights;
        }

        private int count(int n, int k) {
            found = 0;
            tunes = n;
            known = k;
            lastBar = sights.lastBar(k);
            desk[0].begin(band.pond);
            extend(0);
            return found;
        }

        private void extend(int place) {
            if (place >= tunes || place >= ROW_TUNES) {
                if (desk[place].bars >= lastBar) {
                    takeRow();
                }
                return;
            }
            for (int i = 0; i < band.pond.tunes; i++) {
                row[place] = i;
                desk[place + 1].copy(desk[place]);
                if (playsAsSeen(desk[place + 1], i)) {
                    extend(place + 1);
                }
            }
        }

        private boolean playsAsSeen(Evening evening, int tune) {
            // Behind the last BAR of which something is known any TUNE will do.
            for (int i = 0; i < band.pond.bars[tune] && evening.bars < lastBar; i++) {
                band.playBar(evening, tune, i);
                if (!sights.areSo(evening, known)) {
                    return false;
                }
            }
            return true;
        }

        private void takeRow() {
            for (int i = 0; i < tunes; i++) {
                if (found == 0) {
                    first[i] = row[i];
                    only[i] = row[i];
                } else if (only[i] != row[i]) {
                    only[i] = MISSING;
                }
            }
            found++;
        }
    }
}
