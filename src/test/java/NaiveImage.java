import java.util.ArrayList;
import java.util.Arrays;
import java.util.List;

/** The image as the document tells it, made with whole suffixes and nothing clever. */
final class NaiveImage {
    static final int WORDS = 23;

    private NaiveImage() {
    }

    /** The suffixes of the text in growing order, the END included. */
    static String[] suffixes(String text) {
        String whole = text + '\0';
        String[] suffixes = new String[whole.length()];
        for (int p = 0; p < suffixes.length; p++) {
            suffixes[p] = whole.substring(p);
        }
        Arrays.sort(suffixes);
        return suffixes;
    }

    static int placeOf(String text, int row) {
        return text.length() + 1 - suffixes(text)[row].length();
    }

    static int rowOf(String text, int place) {
        String suffix = text.substring(place) + '\0';
        return Arrays.asList(suffixes(text)).indexOf(suffix);
    }

    static long[] of(String text, int rate) {
        int n = text.length();
        String[] suffixes = suffixes(text);
        long[] words = new long[WORDS];
        words[0] = n + 256L * rate;

        int[] places = new int[n + 1];
        int[] rows = new int[n + 1];
        List<Integer> codes = new ArrayList<>();
        for (int r = 0; r <= n; r++) {
            places[r] = n + 1 - suffixes[r].length();
            rows[places[r]] = r;
            codes.add(places[r] == 0 ? 0 : (int) text.charAt(places[r] - 1));
        }
        drawLevels(words, codes);

        int i = 0;
        for (int r = 0; r <= n; r++) {
            if (places[r] % rate == 0) {
                words[8] |= 1L << r;
                words[9 + i / 10] |= (long) (places[r] / rate) << (6 * (i % 10));
                i++;
            }
        }
        for (int q = 0; q * rate <= n; q++) {
            words[16 + q / 10] |= (long) rows[q * rate] << (6 * (q % 10));
        }
        return words;
    }

    private static void drawLevels(long[] words, List<Integer> codes) {
        List<Integer> order = codes;
        for (int j = 0; j <= 6; j++) {
            List<Integer> zeros = new ArrayList<>();
            List<Integer> ones = new ArrayList<>();
            for (int i = 0; i < order.size(); i++) {
                int code = order.get(i);
                if ((code & (1 << (6 - j))) != 0) {
                    words[1 + j] |= 1L << i;
                    ones.add(code);
                } else {
                    zeros.add(code);
                }
            }
            zeros.addAll(ones);
            order = zeros;
        }
    }

    /** The text whose image these words are, or null. */
    static String textOf(long[] words) {
        for (int rate = 1; rate <= 16; rate++) {
            long n = words[0] - 256L * rate;
            if (n >= 0 && n <= 60) {
                String text = invert(befores(words, (int) n));
                boolean fits = text != null && isText(text) && Arrays.equals(of(text, rate), words);
                return fits ? text : null;
            }
        }
        return null;
    }

    private static boolean isText(String text) {
        for (char c : text.toCharArray()) {
            if (c < 32 || c > 126) {
                return false;
            }
        }
        return true;
    }

    /** Follows each row down through the levels by counting the bits in front of it. */
    private static String befores(long[] words, int n) {
        StringBuilder befores = new StringBuilder();
        for (int r = 0; r <= n; r++) {
            int at = r;
            int code = 0;
            for (int j = 1; j <= 7; j++) {
                boolean[] bits = new boolean[n + 1];
                int zeros = 0;
                int alike = 0;
                for (int i = 0; i <= n; i++) {
                    bits[i] = (words[j] & (1L << i)) != 0;
                    zeros += bits[i] ? 0 : 1;
                }
                for (int i = 0; i < at; i++) {
                    alike += bits[i] == bits[at] ? 1 : 0;
                }
                code = 2 * code + (bits[at] ? 1 : 0);
                at = bits[at] ? zeros + alike : alike;
            }
            befores.append((char) code);
        }
        return befores.toString();
    }

    /** The textbook's way back: put the column in front and sort, again and again. */
    private static String invert(String befores) {
        if (befores.indexOf('\0') < 0 || befores.indexOf('\0') != befores.lastIndexOf('\0')) {
            return null;
        }
        String[] table = new String[befores.length()];
        Arrays.fill(table, "");
        for (int step = 0; step < table.length; step++) {
            for (int r = 0; r < table.length; r++) {
                table[r] = befores.charAt(r) + table[r];
            }
            Arrays.sort(table);
        }
        for (String turned : table) {
            if (turned.endsWith("\0")) {
                return turned.substring(0, turned.length() - 1);
            }
        }
        return null;
    }
}
