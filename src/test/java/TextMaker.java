import java.util.Random;

/** Texts of clauses, most of them without a fault, some with a letter or a number that is amiss. */
final class TextMaker {
    private TextMaker() {
    }

    /** The figures tell how many values the dimensions of the table have now. */
    static String make(Random random, String figures) {
        StringBuilder text = new StringBuilder();
        int[] sizes = figures.chars().map(figure -> figure - '0').toArray();
        boolean isNewTable = random.nextInt(3) > 0;
        int clauses = random.nextInt(5) == 0 ? 26 : 1 + random.nextInt(8);
        for (int i = 0; i < clauses; i++) {
            if (i > 0) {
                text.append(random.nextInt(6) == 0 ? " ; " : ";");
            }
            int kind = random.nextInt(12);
            if (i == 0 && isNewTable || kind == 0) {
                sizes = table(text, random, clauses > 20);
            } else if (kind == 1) {
                text.append("support").append(gap(random)).append(1 + random.nextInt(4));
            } else {
                row(text, random, sizes);
            }
        }
        return spoilt(text, random);
    }

    private static String gap(Random random) {
        return random.nextInt(10) == 0 ? "   " : " ";
    }

    private static int[] table(StringBuilder text, Random random, boolean isShort) {
        int[] sizes = new int[isShort ? 1 : 1 + random.nextInt(4)];
        text.append("table");
        for (int i = 0; i < sizes.length; i++) {
            sizes[i] = 1 + random.nextInt(6);
            text.append(gap(random)).append(random.nextInt(20) == 0 ? "0" : "").append(sizes[i]);
        }
        return sizes;
    }

    private static void row(StringBuilder text, Random random, int[] sizes) {
        text.append("row");
        for (int size : sizes) {
            text.append(" ").append(random.nextInt(size));
        }
        text.append(" ").append(random.nextInt(random.nextBoolean() ? 10 : 100));
    }

    private static String spoilt(StringBuilder text, Random random) {
        int spoils = Math.max(0, random.nextInt(4) - 1);
        for (int i = 0; i < spoils; i++) {
            int at = random.nextInt(text.length());
            switch (random.nextInt(4)) {
                case 0 -> text.deleteCharAt(at);
                case 1 -> text.insert(at, (char) random.nextInt(256));
                case 2 -> text.insert(at, "; 0169ab".charAt(random.nextInt(8)));
                default -> text.setLength(at + 1);
            }
        }
        return text.toString();
    }
}
