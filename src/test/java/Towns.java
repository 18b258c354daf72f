import java.nio.charset.StandardCharsets;

/** Objects with a text of a test's own. */
final class Towns {
    private Towns() {
    }

    /** Writes a text as few calls as can be; answers what the last of them did. */
    static int written(Run x, String text) {
        byte[] bytes = text.getBytes(StandardCharsets.ISO_8859_1);
        int answer = 0;
        for (int at = 0; at < bytes.length; at += 8) {
            int n = Math.min(8, bytes.length - at);
            long v = 0;
            for (int k = 0; k < n; k++) {
                v = v << 8 | bytes[at + k] & 255;
            }
            answer = x.write(n, v);
        }
        if (answer < 0) {
            throw new IllegalStateException("the test's own text cannot be written: " + text);
        }
        return answer;
    }

    static int faultOf(String text) {
        Run x = new Run();
        written(x, text);
        return x.fault();
    }

    static int layOf(String text) {
        Run x = new Run();
        written(x, text);
        return x.lay();
    }

    static Run laid(String text) {
        Run x = new Run();
        written(x, text);
        if (x.lay() < 1) {
            throw new IllegalStateException("the test's own text cannot be laid: " + text);
        }
        return x;
    }

    static int[] course(Run x, int i, int days) {
        int[] at = new int[days];
        for (int t = 1; t <= days; t++) {
            at[t - 1] = x.where(i, t);
        }
        return at;
    }

    static int[] sizes(Run x, int i, int... days) {
        int[] sizes = new int[days.length];
        for (int k = 0; k < days.length; k++) {
            sizes[k] = x.size(i, days[k]);
        }
        return sizes;
    }
}
