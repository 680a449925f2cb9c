import java.util.Random;

/** Maps and laws by chance, most of them good, and faults put into them. */
final class RandomTexts {
    private static final String[] ASKED = {"done", "legs", "time", "handicap", "best", "first", "walls", "rounded"};
    private static final String[] STRAY = {"row", "lift", "wind", "top", "wall", "above", "from", "to", "field", "road",
        "glider", "sink", "handicap", "score", "and", "or", "not", "done", "n", "w", "a", "h", "i", "aa", "abcdefgh",
        "abcdefghi", "0", "1", "5", "6", "7", "8", "20", "21", "30", "31", "36", "37", "40", "41", "49", "50", "99", "100",
        "200", "201", "9999", "00000", "1a", ";", "(", ")", "<", ">", "=", "+", "-", "*", "/", "?", "A", "\t", "\u00ff",
        "\u0000", ","};

    private final Random random;

    RandomTexts(Random random) {
        this.random = random;
    }

    private int upTo(int most) {
        return random.nextInt(most + 1);
    }

    private String gap() {
        int kind = random.nextInt(12);
        return kind == 0 ? "\n" : kind == 1 ? "  " : " ";
    }

    private void add(StringBuilder text, Object... parts) {
        for (int i = 0; i < parts.length; i++) {
            text.append(i == 0 ? "" : gap()).append(parts[i]);
        }
        text.append(random.nextInt(3) == 0 ? gap() : "").append(";");
    }

    /** A good map; it may be a small one or tell of everything. */
    String map() {
        StringBuilder text = new StringBuilder();
        int rows = random.nextInt(256);
        int often = 1 + random.nextInt(3);
        for (int y = 0; y < 8; y++) {
            if ((rows >> y & 1) == 1) {
                StringBuilder row = new StringBuilder();
                for (int x = 0; x < 8; x++) {
                    row.append((char) ('a' + random.nextInt(random.nextBoolean() ? 3 : 8)));
                }
                add(text, "row", y, row);
            }
            if (random.nextInt(often) == 0) {
                add(text, "lift", (char) ('a' + y), lift(), lift(), lift(), lift(), lift(), lift());
            }
        }
        for (int hour = 5; hour >= 0; hour--) {
            if (random.nextInt(often + 1) == 0) {
                add(text, "wind", hour, "nesw".charAt(random.nextInt(4)), upTo(3));
            }
            if (random.nextInt(often + 1) == 0) {
                add(text, "top", hour, 1 + random.nextInt(40));
            }
        }
        gliders(text);
        places(text);
        return text.toString();
    }

    private int lift() {
        return random.nextInt(random.nextInt(3) == 0 ? 21 : 6);
    }

    private void gliders(StringBuilder text) {
        String[] names = {"a", "zzzzzzzz", "n", "rows", "aaaaaaaa", "ab", "ba"};
        int first = random.nextInt(4);
        for (int i = random.nextInt(5); i > 0; i--) {
            int heavy = random.nextInt(4) == 0 ? 31 : 7;
            add(text, "glider", names[first + i - 1], "sink", random.nextInt(heavy), random.nextInt(heavy),
                random.nextInt(heavy), random.nextInt(heavy), "handicap", 50 + random.nextInt(151));
        }
    }

    private void places(StringBuilder text) {
        int small = random.nextBoolean() ? 8 : 3;
        for (int i = random.nextInt(10); i > 0; i--) {
            int from = random.nextInt(36);
            add(text, "wall", random.nextInt(small), random.nextInt(small), "above", random.nextInt(41), "from", from, "to",
                from + 1 + random.nextInt(36 - from));
        }
        for (int x = 0; x < 8; x++) {
            if (random.nextBoolean()) {
                add(text, "field", x, random.nextInt(8));
            }
        }
        for (int i = random.nextInt(18); i > 0; i--) {
            int a = random.nextInt(small);
            int b = random.nextInt(small);
            int c = random.nextInt(small);
            add(text, "road", a, b, c, c == a ? (b + 1) % 8 : random.nextInt(small), 1 + random.nextInt(99));
        }
    }

    /** A law that is good if it has not too many units, or parts within others. */
    String law() {
        StringBuilder text = new StringBuilder("score ");
        e(text, 0);
        return text.append(random.nextInt(8) == 0 ? " ;\n" : ";").toString();
    }

    private void e(StringBuilder text, int depth) {
        boolean deep = depth > 7;
        if (!deep && random.nextInt(5) == 0) {
            text.append("not ");
            one(text, depth + 1);
        } else {
            one(text, depth);
        }
        for (int i = random.nextInt(4); i > 2 && !deep; i--) {
            text.append(random.nextBoolean() ? " and " : " or ");
            e(text, depth + 1);
        }
    }

    private void one(StringBuilder text, int depth) {
        unit(text, depth);
        for (int i = random.nextInt(4); i > 0; i--) {
            text.append(gap()).append("+-*/".charAt(random.nextInt(4))).append(gap());
            unit(text, depth);
        }
        if (random.nextInt(3) == 0) {
            text.append("<>=".charAt(random.nextInt(3)));
            unit(text, depth);
        }
    }

    private void unit(StringBuilder text, int depth) {
        int kind = random.nextInt(5);
        if (kind == 0 && depth < 9) {
            text.append('(');
            e(text, depth + 1);
            text.append(')');
        } else if (kind < 3) {
            text.append(random.nextInt(random.nextBoolean() ? 4 : 10000));
        } else {
            text.append(ASKED[random.nextInt(ASKED.length)]);
        }
    }

    /** The text with a part of it left out, doubled, moved or made another one. */
    String spoilt(String text) {
        int from = random.nextInt(text.length() + 1);
        String head = text.substring(0, from);
        String tail = text.substring(from);
        String stray = STRAY[random.nextInt(STRAY.length)];
        switch (random.nextInt(8)) {
            case 0: return head;
            case 1: return head + stray + tail;
            case 2: return head + " " + stray + " " + tail;
            case 3: return head + tail.replaceFirst("(?s)^[^ ;]*", stray);
            case 4: return head + tail.replaceFirst("(?s)^.", "");
            case 5: return head + tail.replaceFirst("(?s)^[a-z0-9]*.", "");
            case 6: return text + tail.substring(tail.indexOf(';') + 1);
            default: return head + tail.replaceFirst("[0-9]+", "" + random.nextInt(random.nextBoolean() ? 9 : 210));
        }
    }
}
