import java.util.ArrayList;
import java.util.HashMap;
import java.util.HashSet;
import java.util.List;
import java.util.Map;
import java.util.Set;

/** The document once more, as plainly as can be and by other ways (trees, whole searches), to compare with. */
final class Model {
    interface Formula {
        int of(int ice, int beat, int load, int around);
    }

    static final class Wrong extends RuntimeException {
        private static final long serialVersionUID = 1;
        final int fault;
        final int place;

        Wrong(int fault, int place) {
            this.fault = fault;
            this.place = place;
        }
    }

    record Token(String text, int place, int bad) {
        boolean isWord() {
            return bad == 0 && !text.isEmpty() && Character.isLetter(text.charAt(0));
        }

        boolean isNumber() {
            return bad == 0 && !text.isEmpty() && Character.isDigit(text.charAt(0));
        }
    }

    record Skater(int weight, int x, int y, List<String> way) {
    }

    record Tune(int bars, Formula e) {
    }

    static final class Told {
        int across;
        int down;
        int thick = -1;
        Map<Integer, Integer> cells = new HashMap<>();
        Set<Integer> planks = new HashSet<>();
        List<Tune> tunes = new ArrayList<>();
        Formula silence;
        List<Skater> skaters = new ArrayList<>();
        int units;
    }

    static final Set<String> OWN = Set.of("pond", "by", "ice", "cell", "plank", "at", "tune", "bars", "silence", "skater", "weight",
        "stay", "north", "east", "south", "west", "or", "and", "not", "beat", "load", "around");

    static final class Parser {
        final List<Token> tokens = new ArrayList<>();
        final Told told = new Told();
        final Set<String> tuneNames = new HashSet<>();
        final Set<String> skaterNames = new HashSet<>();
        int at;
        int inOne;

        Parser(String text) {
            int i = 0;
            while (i < text.length()) {
                char c = text.charAt(i);
                if (c == ' ' || c == '\n') {
                    i++;
                    continue;
                }
                int j = i + 1;
                boolean bad = false;
                if (letter(c)) {
                    while (j < text.length() && letter(text.charAt(j))) {
                        j++;
                    }
                    bad = j - i > 8;
                } else if (digit(c)) {
                    while (j < text.length() && digit(text.charAt(j))) {
                        j++;
                    }
                    bad = j - i > 4 || j < text.length() && letter(text.charAt(j));
                } else {
                    bad = ";()<>=+-*/%".indexOf(c) < 0;
                }
                tokens.add(new Token(text.substring(i, j), i, bad ? 1 : 0));
                i = j;
            }
            tokens.add(new Token("", text.length(), 0));
        }

        static boolean letter(char c) {
            return c >= 'a' && c <= 'z';
        }

        static boolean digit(char c) {
            return c >= '0' && c <= '9';
        }

        Token now() {
            return tokens.get(at);
        }

        boolean sees(String text) {
            return now().bad() == 0 && now().text().equals(text) && !text.isEmpty();
        }

        Wrong wrong(int fault) {
            return new Wrong(now().bad() == 1 ? 1 : fault, now().place());
        }

        void need(String text) {
            if (!sees(text)) {
                throw wrong(2);
            }
            at++;
        }

        int number(int least, int most) {
            if (!now().isNumber()) {
                throw wrong(2);
            }
            int value = Integer.parseInt(now().text());
            if (value < least || value > most) {
                throw wrong(4);
            }
            at++;
            return value;
        }

        String name(Set<String> told) {
            if (!now().isWord() || OWN.contains(now().text())) {
                throw wrong(2);
            }
            if (!told.add(now().text())) {
                throw wrong(3);
            }
            return tokens.get(at++).text();
        }

        Told parse() {
            while (at < tokens.size() - 1) {
                line();
                need(";");
            }
            return told;
        }

        void line() {
            String word = now().text();
            boolean begun = told.across > 0;
            boolean may = now().isWord() && switch (word) {
                case "pond" -> !begun;
                case "ice" -> begun && told.thick < 0;
                case "cell", "plank" -> begun;
                case "tune" -> begun && told.tunes.size() < 6;
                case "silence" -> begun && told.silence == null;
                case "skater" -> begun && told.skaters.size() < 6;
                default -> false;
            };
            if (!may) {
                throw wrong(2);
            }
            at++;
            switch (word) {
                case "pond" -> {
                    told.across = number(1, 5);
                    need("by");
                    told.down = number(1, 5);
                }
                case "ice" -> told.thick = number(0, 99);
                case "cell" -> {
                    int cell = cell(told.cells.keySet());
                    need("ice");
                    told.cells.put(cell, number(0, 99));
                }
                case "plank" -> {
                    need("at");
                    told.planks.add(cell(told.planks));
                }
                case "tune" -> {
                    name(tuneNames);
                    need("bars");
                    int bars = number(1, 12);
                    inOne = 0;
                    told.tunes.add(new Tune(bars, e(0)));
                }
                case "silence" -> {
                    inOne = 0;
                    told.silence = e(0);
                }
                default -> skater();
            }
        }

        int cell(Set<Integer> before) {
            int x = number(0, told.across - 1);
            int place = at;
            int y = number(0, told.down - 1);
            if (before.contains(x + 5 * y)) {
                at = place;
                throw wrong(3);
            }
            return x + 5 * y;
        }

        void skater() {
            name(skaterNames);
            need("weight");
            int weight = number(1, 99);
            need("at");
            int cell = cell(Set.of());
            List<String> way = new ArrayList<>();
            while (way.size() < 8 && (sees("stay") || sees("north") || sees("east") || sees("south") || sees("west"))) {
                way.add(tokens.get(at++).text());
            }
            told.skaters.add(new Skater(weight, cell % 5, cell / 5, way));
        }

        Formula e(int within) {
            Formula left = both(within);
            while (sees("or")) {
                at++;
                Formula a = left;
                Formula b = both(within);
                left = (i, t, l, o) -> a.of(i, t, l, o) != 0 | b.of(i, t, l, o) != 0 ? 1 : 0;
            }
            return left;
        }

        Formula both(int within) {
            Formula left = one(within);
            while (sees("and")) {
                at++;
                Formula a = left;
                Formula b = one(within);
                left = (i, t, l, o) -> a.of(i, t, l, o) != 0 & b.of(i, t, l, o) != 0 ? 1 : 0;
            }
            return left;
        }

        Formula one(int within) {
            if (sees("not")) {
                if (within > 6) {
                    throw wrong(2);
                }
                at++;
                Formula a = one(within + 1);
                return (i, t, l, o) -> a.of(i, t, l, o) != 0 ? 0 : 1;
            }
            Formula a = sum(within);
            if (sees("<") || sees(">") || sees("=")) {
                char sign = tokens.get(at++).text().charAt(0);
                Formula b = sum(within);
                return (i, t, l, o) -> {
                    int order = Integer.compare(a.of(i, t, l, o), b.of(i, t, l, o));
                    return sign == '<' && order < 0 || sign == '>' && order > 0 || sign == '=' && order == 0 ? 1 : 0;
                };
            }
            return a;
        }

        Formula sum(int within) {
            Formula left = term(within);
            while (sees("+") || sees("-")) {
                boolean plus = tokens.get(at++).text().equals("+");
                Formula a = left;
                Formula b = term(within);
                left = (i, t, l, o) -> plus ? a.of(i, t, l, o) + b.of(i, t, l, o) : a.of(i, t, l, o) - b.of(i, t, l, o);
            }
            return left;
        }

        Formula term(int within) {
            Formula left = unit(within);
            while (sees("*") || sees("/") || sees("%")) {
                char sign = tokens.get(at++).text().charAt(0);
                Formula a = left;
                Formula b = unit(within);
                left = (i, t, l, o) -> {
                    int p = a.of(i, t, l, o);
                    int q = b.of(i, t, l, o);
                    if (sign == '*') {
                        return p * q;
                    }
                    return q == 0 ? 0 : sign == '/' ? p / q : p % q;
                };
            }
            return left;
        }

        Formula unit(int within) {
            if (told.units == 90 || inOne == 30) {
                throw wrong(2);
            }
            told.units++;
            inOne++;
            if (now().isNumber()) {
                int value = Integer.parseInt(tokens.get(at++).text());
                return (i, t, l, o) -> value;
            }
            if (sees("(")) {
                if (within > 6) {
                    throw wrong(2);
                }
                at++;
                Formula inner = e(within + 1);
                need(")");
                return inner;
            }
            Formula leaf = switch (now().bad() == 1 ? "" : now().text()) {
                case "ice" -> (i, t, l, o) -> i;
                case "beat" -> (i, t, l, o) -> t;
                case "load" -> (i, t, l, o) -> l;
                case "around" -> (i, t, l, o) -> o;
                default -> throw wrong(2);
            };
            at++;
            return leaf;
        }
    }

    /** How it stands; never changed once made, but by bar(). */
    final class State {
        int bars;
        int[][] ice = new int[5][5];
        int[] x = new int[6];
        int[] y = new int[6];
        int[][] in = new int[6][];
        Set<Integer> planks = new HashSet<>(told.planks);
        boolean broke;

        State same() {
            State s = new State();
            s.bars = bars;
            for (int i = 0; i < 5; i++) {
                s.ice[i] = ice[i].clone();
            }
            s.x = x.clone();
            s.y = y.clone();
            s.in = in.clone();
            s.planks = new HashSet<>(planks);
            return s;
        }

        int up() {
            int up = 0;
            for (int i = 0; i < told.skaters.size(); i++) {
                up += in[i] == null ? 1 : 0;
            }
            return up;
        }

        int in() {
            return told.skaters.size() - up();
        }

        int load(int cx, int cy) {
            int sum = 0;
            for (int i = 0; i < told.skaters.size(); i++) {
                sum += in[i] == null && x[i] == cx && y[i] == cy ? told.skaters.get(i).weight() : 0;
            }
            return sum;
        }

        int iceOr0(int cx, int cy) {
            return there(cx, cy) ? ice[cy][cx] : 0;
        }

        void bar(int tune, int beat) {
            Formula e = tune < 0 ? told.silence : told.tunes.get(tune).e();
            for (int i = 0; i < told.skaters.size(); i++) {
                List<String> way = told.skaters.get(i).way();
                if (in[i] != null || way.isEmpty()) {
                    continue;
                }
                String step = way.get(bars % way.size());
                int nx = x[i] + (step.equals("east") ? 1 : step.equals("west") ? -1 : 0);
                int ny = y[i] + (step.equals("south") ? 1 : step.equals("north") ? -1 : 0);
                if (there(nx, ny)) {
                    x[i] = nx;
                    y[i] = ny;
                }
            }
            int[][] next = new int[5][5];
            for (int cy = 0; cy < told.down; cy++) {
                for (int cx = 0; cx < told.across; cx++) {
                    int around = iceOr0(cx - 1, cy) + iceOr0(cx + 1, cy) + iceOr0(cx, cy - 1) + iceOr0(cx, cy + 1);
                    long more = e == null ? 0 : e.of(ice[cy][cx], beat, load(cx, cy), around);
                    next[cy][cx] = (int) Math.max(0, Math.min(99, ice[cy][cx] + more));
                }
            }
            ice = next;
            broke = false;
            for (int cy = 0; cy < told.down; cy++) {
                for (int cx = 0; cx < told.across; cx++) {
                    if (!planks.contains(cx + 5 * cy) && load(cx, cy) > ice[cy][cx]) {
                        broke = true;
                        ice[cy][cx] = 0;
                        for (int i = 0; i < told.skaters.size(); i++) {
                            if (in[i] == null && x[i] == cx && y[i] == cy) {
                                in[i] = new int[] {bars, tune, beat};
                            }
                        }
                    }
                }
            }
            bars++;
        }

        State after(int tune) {
            State s = same();
            for (int i = 0; i < told.tunes.get(tune).bars(); i++) {
                s.bar(tune, i);
            }
            return s;
        }

        State hushed(int n) {
            State s = same();
            for (int i = 0; i < n; i++) {
                s.bar(-1, i);
            }
            return s;
        }
    }

    static final class Sight {
        int bar;
        int x;
        int y;
        int least;
        int most;
        int skater = -1;
        boolean up;
        int told;
        int untold = -1;
    }

    final StringBuilder tape = new StringBuilder();
    Told told = new Told();
    State now = new State();
    List<State> past = new ArrayList<>();
    List<State> future = new ArrayList<>();
    State[] boxes = new State[3];
    List<Sight> sights = new ArrayList<>();
    List<Integer> lies = new ArrayList<>();
    int time;
    int fault;
    int place = -1;

    boolean there(int x, int y) {
        return x >= 0 && y >= 0 && x < told.across && y < told.down;
    }

    boolean tune(int t) {
        return t >= 0 && t < told.tunes.size();
    }

    State beginning() {
        State s = new State();
        for (int y = 0; y < told.down; y++) {
            for (int x = 0; x < told.across; x++) {
                s.ice[y][x] = told.cells.getOrDefault(x + 5 * y, told.thick < 0 ? 50 : told.thick);
            }
        }
        for (int i = 0; i < told.skaters.size(); i++) {
            s.x[i] = told.skaters.get(i).x();
            s.y[i] = told.skaters.get(i).y();
        }
        return s;
    }

    int feed(int a, int b, int c, int d, int e) {
        if (tape.length() + 20 > 1600) {
            return -1;
        }
        for (int n : new int[] {a, b, c, d, e}) {
            tape.append((char) (n >>> 24)).append((char) (n >>> 16 & 255)).append((char) (n >>> 8 & 255)).append((char) (n & 255));
        }
        return tape.length();
    }

    int end(int n) {
        if (n < 0 || n > tape.length()) {
            return -1;
        }
        tape.setLength(n);
        return n;
    }

    int pond() {
        fault = 0;
        place = -1;
        try {
            told = new Parser(tape.toString()).parse();
        } catch (Wrong w) {
            fault = w.fault;
            place = w.place;
            return -1;
        }
        tape.setLength(0);
        now = beginning();
        past.clear();
        future.clear();
        sights.clear();
        lies.clear();
        boxes = new State[3];
        return told.across * told.down;
    }

    int fault(int what) {
        return what == 0 ? fault : what == 1 ? place : -1;
    }

    int ice(int x, int y) {
        return there(x, y) ? now.ice[y][x] : -1;
    }

    int load(int x, int y) {
        return there(x, y) ? now.load(x, y) : -1;
    }

    int skater(int s, int what) {
        if (s < 0 || s >= told.skaters.size() || what < 0 || what > 5) {
            return -2;
        }
        if (what > 2) {
            return now.in[s] == null ? -1 : now.in[s][what - 3];
        }
        return what == 0 ? now.x[s] : what == 1 ? now.y[s] : now.in[s] == null ? 1 : 0;
    }

    int act(State next) {
        past.add(now);
        if (past.size() > 40) {
            past.remove(0);
        }
        future.clear();
        now = next;
        return now.up();
    }

    int play(int t) {
        return !tune(t) || now.bars + told.tunes.get(t).bars() > 2000 ? -1 : act(now.after(t));
    }

    int hold(int bars) {
        return bars < 0 || bars > 20 || now.bars + bars > 2000 ? -1 : act(now.hushed(bars));
    }

    boolean undo() {
        if (past.isEmpty()) {
            return false;
        }
        future.add(now);
        now = past.remove(past.size() - 1);
        return true;
    }

    boolean redo() {
        if (future.isEmpty()) {
            return false;
        }
        past.add(now);
        now = future.remove(future.size() - 1);
        return true;
    }

    int order(int set) {
        lies.clear();
        if (set < 0 || set >= 1 << told.tunes.size()) {
            return -1;
        }
        int[] fewest = {99};
        orders(now, set, new ArrayList<>(), fewest);
        return fewest[0];
    }

    void orders(State s, int set, List<Integer> row, int[] fewest) {
        if (set == 0 && s.in() < fewest[0]) {
            fewest[0] = s.in();
            lies = new ArrayList<>(row);
        }
        for (int t = 0; t < 6; t++) {
            if ((set & 1 << t) != 0) {
                row.add(t);
                orders(s.after(t), set - (1 << t), row, fewest);
                row.remove(row.size() - 1);
            }
        }
    }

    int duel(int set, int n, int what) {
        if (set <= 0 || set >= 1 << told.tunes.size() || n < 1 || n > 4 || what < 0 || what > 1) {
            return -1;
        }
        int best = -1;
        int choice = -1;
        for (int t = 0; t < 6; t++) {
            if ((set & 1 << t) != 0) {
                int up = duels(now.after(t), set, n - 1, false);
                if (up > best) {
                    best = up;
                    choice = t;
                }
            }
        }
        return what == 0 ? best : choice;
    }

    int duels(State s, int set, int n, boolean band) {
        if (n == 0) {
            return s.up();
        }
        int best = band ? -1 : 99;
        for (int t = 0; t < 6; t++) {
            if ((set & 1 << t) != 0) {
                int up = duels(s.after(t), set, n - 1, !band);
                best = band ? Math.max(best, up) : Math.min(best, up);
            }
        }
        return best;
    }

    boolean enough(int t, int... cells) {
        State s = now.same();
        for (int c : cells) {
            s.planks.add(c);
        }
        return s.after(t).in() == now.in();
    }

    int planks(int t) {
        lies.clear();
        if (!tune(t)) {
            return -2;
        }
        if (enough(t)) {
            return 0;
        }
        for (int a = 0; a < 25; a++) {
            if (there(a % 5, a / 5) && enough(t, a)) {
                lies.add(a);
                return 1;
            }
        }
        for (int a = 0; a < 25; a++) {
            for (int b = a + 1; b < 25; b++) {
                if (there(a % 5, a / 5) && there(b % 5, b / 5) && enough(t, a, b)) {
                    lies.add(a);
                    lies.add(b);
                    return 2;
                }
            }
        }
        return -1;
    }

    int hush(int t, int what) {
        if (!tune(t) || what < 0 || what > 1) {
            return -1;
        }
        int best = 0;
        for (int n = 1; n <= 8; n++) {
            if (now.hushed(n).after(t).in() < now.hushed(best).after(t).in()) {
                best = n;
            }
        }
        return what == 0 ? best : now.hushed(best).after(t).in();
    }

    int breaks(int t, int d) {
        if (!tune(t) || d < -9 || d > 9) {
            return -2;
        }
        State s = now.same();
        for (int[] row : s.ice) {
            for (int i = 0; i < 5; i++) {
                row[i] = Math.max(0, Math.min(99, row[i] + d));
            }
        }
        for (int i = 0; i < told.tunes.get(t).bars(); i++) {
            s.bar(t, i);
            if (s.broke) {
                return i;
            }
        }
        return -1;
    }

    int lies(int i) {
        return i < 0 || i >= lies.size() ? -1 : lies.get(i);
    }

    int sight(int bar, int x, int y, int least, int most) {
        if (bar < 1 || bar > 36 || !there(x, y) || least < 0 || least > 99 || most < 0 || most > 99 || most < least) {
            return -1;
        }
        Sight s = new Sight();
        s.x = x;
        s.y = y;
        s.least = least;
        s.most = most;
        return add(s, bar);
    }

    int seen(int bar, int skater, boolean up) {
        if (bar < 1 || bar > 36 || skater < 0 || skater >= told.skaters.size()) {
            return -1;
        }
        Sight s = new Sight();
        s.skater = skater;
        s.up = up;
        return add(s, bar);
    }

    int add(Sight s, int bar) {
        if (sights.size() == 30) {
            return -1;
        }
        s.bar = bar;
        s.told = time;
        sights.add(s);
        return sights.size() - 1;
    }

    boolean untell(int i) {
        if (i < 0 || i >= sights.size() || sights.get(i).untold >= 0) {
            return false;
        }
        sights.get(i).untold = time;
        return true;
    }

    int later(int by) {
        if (by < 0 || by > 1000 || time + by > 100000) {
            return -1;
        }
        return time += by;
    }

    List<int[]> rows(int n, int k) {
        List<int[]> rows = new ArrayList<>();
        int count = told.tunes.size();
        int all = (int) Math.pow(count, n);
        for (int r = 0; r < all; r++) {
            int[] row = new int[n];
            int rest = r;
            for (int i = n - 1; i >= 0; i--) {
                row[i] = rest % count;
                rest /= count;
            }
            if (fits(row, k)) {
                rows.add(row);
            }
        }
        return rows;
    }

    boolean fits(int[] row, int k) {
        List<State> behind = new ArrayList<>();
        State s = beginning();
        behind.add(s.same());
        for (int t : row) {
            for (int i = 0; i < told.tunes.get(t).bars(); i++) {
                s.bar(t, i);
                behind.add(s.same());
            }
        }
        for (Sight g : sights) {
            if (g.told <= k && !(g.untold >= 0 && g.untold <= k)) {
                if (g.bar >= behind.size()) {
                    return false;
                }
                State b = behind.get(g.bar);
                boolean so = g.skater >= 0 ? (b.in[g.skater] == null) == g.up : b.ice[g.y][g.x] >= g.least && b.ice[g.y][g.x] <= g.most;
                if (!so) {
                    return false;
                }
            }
        }
        return true;
    }

    int asked(int n, int k) {
        lies.clear();
        if (n < 1 || n > 3) {
            return -1;
        }
        List<int[]> rows = rows(n, k);
        if (!rows.isEmpty()) {
            for (int t : rows.get(0)) {
                lies.add(t);
            }
        }
        return rows.size();
    }

    int sure(int n, int place, int k) {
        if (n < 1 || n > 3 || place < 0 || place >= n) {
            return -1;
        }
        List<int[]> rows = rows(n, k);
        if (rows.isEmpty()) {
            return -1;
        }
        for (int[] row : rows) {
            if (row[place] != rows.get(0)[place]) {
                return -2;
            }
        }
        return rows.get(0)[place];
    }

    int image(int box) {
        if (box < 0 || box > 2) {
            return -1;
        }
        boxes[box] = now.same();
        return now.bars;
    }

    int back(int box) {
        if (box < 0 || box > 2 || boxes[box] == null) {
            return -1;
        }
        now = boxes[box].same();
        past.clear();
        future.clear();
        return now.bars;
    }

    int about(int what) {
        return switch (what) {
            case 0 -> told.across;
            case 1 -> told.down;
            case 2 -> told.tunes.size();
            case 3 -> told.skaters.size();
            case 4 -> told.planks.size();
            case 5 -> now.bars;
            case 6 -> past.size();
            case 7 -> future.size();
            case 8 -> sights.size();
            case 9 -> time;
            case 10 -> tape.length();
            case 11 -> told.units;
            case 12 -> lies.size();
            case 13 -> now.up();
            default -> -1;
        };
    }
}
