/** What calls show of an object, as a text: two objects with the same text can't be told apart. */
final class Look {
    private Look() {
    }

    /** The EVENING and the POND, by calls that change nothing. */
    static String evening(IceTunes x) {
        StringBuilder text = new StringBuilder();
        for (int what : new int[] {0, 1, 2, 3, 4, 5, 11, 13}) {
            text.append(x.about(what)).append(' ');
        }
        int across = x.about(0);
        int cells = across * x.about(1);
        for (int i = 0; i < cells; i++) {
            text.append("| ").append(x.ice(i % across, i / across)).append(' ').append(x.load(i % across, i / across)).append(' ');
        }
        int skaters = x.about(3);
        for (int i = 0; i < skaters; i++) {
            text.append("| s").append(i);
            for (int what = 0; what < 6; what++) {
                text.append(' ').append(x.skater(i, what));
            }
            text.append(' ');
        }
        return text.toString();
    }

    /** Few calls, so that an object has not more than its 512. */
    private static String brief(IceTunes x) {
        return x.about(5) + " " + x.about(13) + " " + x.ice(0, 0) + " " + x.load(0, 0) + " " + x.skater(1, 3);
    }

    static String lying(IceTunes x) {
        int count = x.about(12);
        StringBuilder text = new StringBuilder("lies ").append(count);
        for (int i = 0; i < count; i++) {
            text.append(' ').append(x.lies(i));
        }
        return text.toString();
    }

    /** ACTS, SIGHTS, the TIME, the TAPE as counted. */
    static String counts(IceTunes x) {
        return "; acts " + x.about(6) + " " + x.about(7) + ", sights " + x.about(8) + ", time " + x.about(9) + ", tape " + x.about(10) + "; ";
    }

    static String faults(IceTunes x) {
        return "; fault " + x.fault(0) + " at " + x.fault(1);
    }

    /** All but what lies there and the latest FAULT; what only other calls can show is shown by those, so the object is used up. */
    static String rest(IceTunes x) {
        StringBuilder text = new StringBuilder(evening(x)).append(counts(x));
        int time = x.about(9);
        for (int n = 1; n <= 2; n++) {
            for (int k : new int[] {0, time - 1, time}) {
                text.append("asked ").append(x.asked(n, k)).append(' ').append(lying(x)).append(' ').append(x.sure(n, n - 1, k)).append("; ");
            }
        }
        while (x.undo()) {
            text.append("undo ").append(x.about(5)).append("; ");
        }
        text.append(brief(x)).append("; ");
        while (x.redo()) {
            text.append("redo ").append(x.about(5)).append("; ");
        }
        text.append(brief(x));
        for (int box = 0; box < 3; box++) {
            text.append("; box ").append(box).append(": ").append(x.back(box)).append(' ').append(brief(x));
        }
        return text.append("; tape: ").append(x.pond()).append(faults(x)).append(' ').append(evening(x)).toString();
    }

    static String all(IceTunes x) {
        return lying(x) + faults(x) + "; " + rest(x);
    }
}
