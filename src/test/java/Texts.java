import java.util.Random;

/** Makes texts of PONDS, right ones and (by spoil) wrong ones. */
final class Texts {
    private final Random dice;
    private int units;
    private int inOne;

    Texts(Random dice) {
        this.dice = dice;
    }

    private String blank() {
        return dice.nextInt(8) == 0 ? "\n " : " ";
    }

    String pond() {
        units = 0;
        int across = 1 + dice.nextInt(dice.nextInt(3) == 0 ? 5 : 3);
        int down = 1 + dice.nextInt(dice.nextInt(3) == 0 ? 5 : 3);
        StringBuilder text = new StringBuilder("pond " + across + " by " + down + ";");
        int base = dice.nextInt(30);
        if (dice.nextInt(4) != 0) {
            text.append("ice ").append(base).append(";");
        }
        boolean[] told = new boolean[25];
        boolean[] planked = new boolean[25];
        for (int i = dice.nextInt(4); i > 0; i--) {
            int x = dice.nextInt(across);
            int y = dice.nextInt(down);
            if (!told[x + 5 * y]) {
                told[x + 5 * y] = true;
                text.append("cell ").append(x).append(' ').append(y).append(" ice ").append(dice.nextInt(40)).append(blank()).append(';');
            }
            x = dice.nextInt(across);
            y = dice.nextInt(down);
            if (!planked[x + 5 * y] && dice.nextInt(3) == 0) {
                planked[x + 5 * y] = true;
                text.append("plank at ").append(x).append(blank()).append(y).append(";");
            }
        }
        if (dice.nextInt(3) != 0) {
            text.append("silence ").append(formula()).append(";");
        }
        int tunes = dice.nextInt(20) == 0 ? 0 : 1 + dice.nextInt(dice.nextInt(4) == 0 ? 6 : 3);
        int skaters = dice.nextInt(20) == 0 ? 0 : 1 + dice.nextInt(6);
        for (int i = 0; i < Math.max(tunes, skaters); i++) {
            if (i < tunes) {
                text.append("tune ").append((char) ('a' + i)).append(" bars ").append(1 + dice.nextInt(dice.nextInt(5) == 0 ? 12 : 4)).append(blank())
                    .append(formula()).append(";");
            }
            if (i < skaters) {
                text.append("skater ").append((char) ('a' + i)).append("x weight ").append(1 + dice.nextInt(1 + Math.min(98, base))).append(" at ")
                    .append(dice.nextInt(across)).append(' ').append(dice.nextInt(down));
                String[] ways = {"stay", "north", "east", "south", "west"};
                for (int s = dice.nextInt(9); s > 0; s--) {
                    text.append(blank()).append(ways[dice.nextInt(5)]);
                }
                text.append(";");
            }
        }
        return text.toString();
    }

    String formula() {
        inOne = 0;
        String[] often = {"0 - beat", "0 - 3", "load / 2 - 3", "0 - load", "(load > 0) * (0 - 4) + 1", "around / 4 - ice", "2", "beat % 3 - 2"};
        if (dice.nextInt(2) == 0) {
            String text = often[dice.nextInt(often.length)];
            units += 6;
            return text;
        }
        return e(3);
    }

    private String e(int deep) {
        StringBuilder text = new StringBuilder(both(deep));
        while (dice.nextInt(6) == 0) {
            text.append(" or ").append(both(deep));
        }
        return text.toString();
    }

    private String both(int deep) {
        StringBuilder text = new StringBuilder(one(deep));
        while (dice.nextInt(6) == 0) {
            text.append(" and ").append(one(deep));
        }
        return text.toString();
    }

    private String one(int deep) {
        if (deep > 0 && dice.nextInt(8) == 0) {
            return "not " + one(deep - 1);
        }
        String text = sum(deep);
        if (dice.nextInt(5) == 0) {
            text += "<>=".charAt(dice.nextInt(3)) + sum(deep);
        }
        return text;
    }

    private String sum(int deep) {
        StringBuilder text = new StringBuilder(term(deep));
        while (dice.nextInt(3) == 0) {
            text.append(dice.nextInt(3) == 0 ? "+" : " - ").append(term(deep));
        }
        return text.toString();
    }

    private String term(int deep) {
        StringBuilder text = new StringBuilder(unit(deep));
        while (dice.nextInt(4) == 0) {
            text.append(" * / % ".charAt(1 + 2 * dice.nextInt(3))).append(unit(deep));
        }
        return text.toString();
    }

    private String unit(int deep) {
        units++;
        inOne++;
        if (deep > 0 && units < 80 && inOne < 20 && dice.nextInt(5) == 0) {
            return "(" + e(deep - 1) + ")";
        }
        String[] leaves = {"ice", "beat", "load", "around", "0", "1", "2", "7", "9999"};
        return leaves[dice.nextInt(leaves.length)];
    }

    /** One place made otherwise: often a FAULT, not always. */
    String spoil(String text) {
        String[] parts = {";", "(", ")", "not ", "ice ", "pond ", "9", "77", "12345", "abcdefghi ", "A", "\t", "tune a bars 1 1;", "skater q weight 1 at 0 0;",
            "silence 1;", " or ", "<", "=", "%", "stay ", "x", "ice 5;", "cell 0 0 ice 4;", "plank at 0 0;", "\u00e9", "pond 1 by 1;", "0", "bars "};
        int at = dice.nextInt(text.length() + 1);
        String part = parts[dice.nextInt(parts.length)];
        switch (dice.nextInt(6)) {
            case 4:
                return twice(text);
            case 5:
                return otherNumber(text);
            case 0:
                return text.substring(0, at);
            case 1:
                return text.substring(0, at) + part + text.substring(at);
            case 2:
                return text.substring(0, at) + part + text.substring(Math.min(text.length(), at + part.length()));
            default:
                return text.substring(0, at) + text.substring(Math.min(text.length(), at + 1 + dice.nextInt(12)));
        }
    }

    /** A line told a second time, at the end. */
    private String twice(String text) {
        String[] lines = text.split(";");
        return text + lines[dice.nextInt(lines.length)] + ";";
    }

    /** A digit made another, or another put behind it. */
    private String otherNumber(String text) {
        for (int tries = 0; tries < 50 && !text.isEmpty(); tries++) {
            int at = dice.nextInt(text.length());
            if (Character.isDigit(text.charAt(at))) {
                return text.substring(0, at) + dice.nextInt(10) + text.substring(dice.nextInt(2) == 0 ? at : at + 1);
            }
        }
        return text;
    }
}
