import java.util.HashSet;
import java.util.Set;

/** The whole class once more, straight from the document's words and as slow as it likes. */
final class NaiveHouse {
    private String written = "";
    private String pattern = "";
    private long[] desk = new long[NaiveImage.WORDS];
    private String loaded = null;
    private int loadedRate = -1;

    boolean write(char c) {
        if (c < 32 || c > 126 || written.length() == 60) {
            return false;
        }
        written += c;
        return true;
    }

    void erase() {
        written = "";
    }

    boolean build(int rate) {
        if (rate < 1 || rate > 16) {
            return false;
        }
        desk = NaiveImage.of(written, rate);
        return true;
    }

    long word(int k) {
        return k < 0 || k > 22 ? 0 : desk[k];
    }

    boolean put(int k, long v) {
        if (k < 0 || k > 22) {
            return false;
        }
        desk[k] = v;
        return true;
    }

    boolean flip(int k, int b) {
        if (k < 0 || k > 22 || b < 0 || b > 63) {
            return false;
        }
        desk[k] ^= 1L << b;
        return true;
    }

    boolean load() {
        String text = NaiveImage.textOf(desk);
        if (text == null) {
            return false;
        }
        loaded = text;
        loadedRate = (int) (desk[0] / 256);
        return true;
    }

    int length() {
        return loaded == null ? -1 : loaded.length();
    }

    int rate() {
        return loadedRate;
    }

    private boolean inLoaded(int p) {
        return loaded != null && p >= 0 && p <= loaded.length();
    }

    int charAt(int p) {
        return inLoaded(p) ? (loaded + '\0').charAt(p) : -1;
    }

    int rowOf(int p) {
        return inLoaded(p) ? NaiveImage.rowOf(loaded, p) : -1;
    }

    int placeOf(int r) {
        return inLoaded(r) ? NaiveImage.placeOf(loaded, r) : -1;
    }

    String pattern() {
        return pattern;
    }

    boolean ask(char c) {
        if (c < 32 || c > 126 || pattern.length() == 20) {
            return false;
        }
        pattern += c;
        return true;
    }

    boolean back() {
        if (pattern.isEmpty()) {
            return false;
        }
        pattern = pattern.substring(0, pattern.length() - 1);
        return true;
    }

    int count() {
        if (loaded == null) {
            return -1;
        }
        int found = 0;
        for (int p = 0; p <= loaded.length(); p++) {
            found += loaded.startsWith(pattern, p) ? 1 : 0;
        }
        return found;
    }

    int firstRow() {
        if (loaded != null) {
            String[] suffixes = NaiveImage.suffixes(loaded);
            for (int r = 0; r < suffixes.length; r++) {
                if (suffixes[r].startsWith(pattern)) {
                    return r;
                }
            }
        }
        return -1;
    }

    int locate(int k) {
        if (loaded == null || k < 0) {
            return -1;
        }
        int left = k;
        for (int p = 0; p <= loaded.length(); p++) {
            if (loaded.startsWith(pattern, p)) {
                if (left == 0) {
                    return p;
                }
                left--;
            }
        }
        return -1;
    }

    int variety() {
        if (loaded == null) {
            return -1;
        }
        Set<Character> before = new HashSet<>();
        for (int p = 1; p <= loaded.length(); p++) {
            if (loaded.startsWith(pattern, p)) {
                before.add(loaded.charAt(p - 1));
            }
        }
        return before.size();
    }
}
