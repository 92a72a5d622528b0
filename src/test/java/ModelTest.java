import java.util.Random;

/** Runs of calls by chance (the same ones each time), on the class and on the model. */
public final class ModelTest {
    private static final int RUNS = 1500;
    private static final int CALLS = 120;

    private final Due due = new Due();
    private final Random dice = new Random(20261118);
    private final Texts texts = new Texts(dice);
    private final int[] known = new int[27];

    public static void main(String[] args) {
        ModelTest test = new ModelTest();
        for (int run = 0; run < RUNS && test.due.wrong() < 20; run++) {
            test.run(run);
        }
        test.faults();
        test.due.end();
    }

    private void run(int run) {
        IceTunes x = new IceTunes();
        Model m = new Model();
        String text = tell(run, x, m);
        for (int i = 0; i < CALLS && due.wrong() < 20; i++) {
            if (dice.nextInt(60) == 0) {
                text = tell(run, x, m);
            }
            int before = due.wrong();
            call(run, x, m);
            look(run, x, m);
            if (due.wrong() > before) {
                System.out.println("  the text: " + text);
            }
        }
    }

    private String tell(int run, IceTunes x, Model m) {
        String text = texts.pond();
        while (dice.nextInt(3) == 0) {
            text = texts.spoil(text);
        }
        if (text.length() > 1600) {
            text = text.substring(0, 1600);
        }
        byte[] bytes = Due.bytes(text);
        int[] n = Due.numbers(bytes);
        due.is("end(0)", x.end(0), m.end(0));
        for (int i = 0; i < n.length; i += 5) {
            due.is("feed", x.feed(n[i], n[i + 1], n[i + 2], n[i + 3], n[i + 4]), m.feed(n[i], n[i + 1], n[i + 2], n[i + 3], n[i + 4]));
        }
        due.is("end", x.end(bytes.length), m.end(bytes.length));
        due.is("pond() of: " + text, x.pond(), m.pond());
        due.is("fault(0) of: " + text, x.fault(0), m.fault(0));
        due.is("fault(1) of: " + text, x.fault(1), m.fault(1));
        return text;
    }

    /** Mostly small numbers from 0, at times others. */
    private int arg(int below) {
        int odd = dice.nextInt(40);
        return odd == 0 ? -1 : odd == 1 ? below : odd == 2 ? dice.nextInt() : dice.nextInt(below);
    }

    private int tune(Model m) {
        return arg(Math.max(1, m.told.tunes.size()));
    }

    private int set(Model m) {
        return dice.nextInt(30) == 0 ? dice.nextInt() : dice.nextInt(1 << Math.min(3, m.told.tunes.size())) << dice.nextInt(1 + Math.max(0, m.told.tunes.size() - 3));
    }

    private void call(int run, IceTunes x, Model m) {
        int which = dice.nextInt(16);
        int a = arg(6);
        int b = arg(6);
        int t = tune(m);
        int k = arg(5);
        String head = "run " + run + ": ";
        switch (which) {
            case 0, 1 -> due.is(head + "play(" + t + ")", x.play(t), m.play(t));
            case 2 -> {
                int bars = arg(21);
                due.is(head + "hold(" + bars + ")", x.hold(bars), m.hold(bars));
            }
            case 3 -> due.is(head + "undo()", x.undo(), m.undo());
            case 4 -> {
                if (dice.nextInt(2) == 0) {
                    due.is(head + "redo()", x.redo(), m.redo());
                } else {
                    due.is(head + "undo()", x.undo(), m.undo());
                }
            }
            case 5 -> {
                int set = set(m);
                due.is(head + "order(" + set + ")", x.order(set), m.order(set));
            }
            case 6 -> {
                int set = set(m);
                int n = 1 + arg(3);
                due.is(head + "duel(" + set + ", " + n + ", 0)", x.duel(set, n, 0), m.duel(set, n, 0));
                int what = arg(2);
                due.is(head + "duel(" + set + ", " + n + ", " + what + ")", x.duel(set, n, what), m.duel(set, n, what));
            }
            case 7 -> due.is(head + "planks(" + t + ")", x.planks(t), m.planks(t));
            case 8 -> {
                int what = arg(2);
                due.is(head + "hush(" + t + ", " + what + ")", x.hush(t, what), m.hush(t, what));
            }
            case 9 -> {
                int d = arg(19) - 9;
                due.is(head + "breaks(" + t + ", " + d + ")", x.breaks(t, d), m.breaks(t, d));
            }
            case 10 -> sight(head, x, m, a, b);
            case 11 -> {
                int bar = arg(8);
                boolean up = dice.nextInt(3) != 0;
                due.is(head + "seen(" + bar + ", " + a + ", " + up + ")", x.seen(bar, a, up), m.seen(bar, a, up));
            }
            case 12 -> {
                due.is(head + "untell(" + a + ")", x.untell(a), m.untell(a));
                int by = dice.nextInt(5) == 0 ? arg(1001) : arg(2);
                due.is(head + "later(" + by + ")", x.later(by), m.later(by));
            }
            case 13 -> {
                int n = 1 + arg(2);
                due.is(head + "asked(" + n + ", " + k + ")", x.asked(n, k), m.asked(n, k));
            }
            case 14 -> {
                int n = 1 + arg(2);
                int place = arg(3);
                due.is(head + "sure(" + n + ", " + place + ", " + m.time + ")", x.sure(n, place, m.time), m.sure(n, place, m.time));
                due.is(head + "sure(" + n + ", " + place + ", " + k + ")", x.sure(n, place, k), m.sure(n, place, k));
            }
            default -> {
                int box = arg(3);
                if (dice.nextInt(2) == 0) {
                    due.is(head + "image(" + box + ")", x.image(box), m.image(box));
                } else {
                    due.is(head + "back(" + box + ")", x.back(box), m.back(box));
                }
            }
        }
    }

    /** Sights near what would be seen by some row, so that rows are left. */
    private void sight(String head, IceTunes x, Model m, int a, int b) {
        int bar = arg(7);
        int least = arg(100);
        int most = Math.min(99, least + dice.nextInt(60));
        if (!m.told.tunes.isEmpty() && m.told.across > 0 && dice.nextInt(2) == 0) {
            Model.State s = m.beginning().after(dice.nextInt(m.told.tunes.size()));
            bar = s.bars;
            a = dice.nextInt(m.told.across);
            b = dice.nextInt(m.told.down);
            least = Math.max(0, s.ice[b][a] - dice.nextInt(3));
            most = Math.min(99, s.ice[b][a] + dice.nextInt(3));
        }
        String call = head + "sight(" + bar + ", " + a + ", " + b + ", " + least + ", " + most + ")";
        due.is(call, x.sight(bar, a, b, least, most), m.sight(bar, a, b, least, most));
    }

    private void look(int run, IceTunes x, Model m) {
        for (int what = -1; what <= 14; what++) {
            due.is("run " + run + ": about(" + what + ")", x.about(what), m.about(what));
        }
        for (int i = -1; i <= 6; i++) {
            due.is("run " + run + ": lies(" + i + ")", x.lies(i), m.lies(i));
            for (int j = -1; j <= 6; j++) {
                due.is("run " + run + ": skater(" + i + ", " + j + ")", x.skater(i, j), m.skater(i, j));
                if (i < 6 && j < 6) {
                    due.is("run " + run + ": ice(" + i + ", " + j + ")", x.ice(i, j), m.ice(i, j));
                    due.is("run " + run + ": load(" + i + ", " + j + ")", x.load(i, j), m.load(i, j));
                }
            }
        }
    }

    /** Texts alone, most of them wrong: which FAULT, and where. */
    private void faults() {
        IceTunes x = new IceTunes();
        Model m = new Model();
        for (int i = 0; i < 20000 && due.wrong() < 20; i++) {
            tell(i, x, m);
            known[Math.min(26, m.fault)]++;
        }
        System.out.println("texts by FAULT: 0: " + known[0] + ", 1: " + known[1] + ", 2: " + known[2] + ", 3: " + known[3] + ", 4: " + known[4]);
        due.is("all FAULTS came about", known[0] > 0 && known[1] > 0 && known[2] > 0 && known[3] > 0 && known[4] > 0, true);
    }
}
