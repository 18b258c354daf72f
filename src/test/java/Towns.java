import java.nio.charset.StandardCharsets;

/** Objects with a text of a test's own. */
final class Towns {
    private Towns() {
    }

    /** Writes a text as few calls as can be; answers what the last of them did. */
    static int written(SkinInRafters x, String text) {
        byte[] bytes = text.getBytes(StandardCharsets.ISO_8859_1);
        int answer = 0;
        for (int at = 0; at < bytes.length; at += 8) {
            int n = Math.min(8, bytes.length - at);
            long v = 0;
            for (int k = 0; k < n; k++) {
                v = v << 8 | bytes[at + k] & 255;
            }
            answer = x.write(n, v);
        }
        return answer;
    }

    static int faultOf(String text) {
        SkinInRafters x = new SkinInRafters();
        written(x, text);
        return x.fault();
    }

    static int layOf(String text) {
        SkinInRafters x = new SkinInRafters();
        written(x, text);
        return x.lay();
    }

    static SkinInRafters laid(String text) {
        SkinInRafters x = new SkinInRafters();
        written(x, text);
        if (x.lay() < 1) {
            throw new IllegalStateException("the test's own text cannot be laid: " + text);
        }
        return x;
    }

    static int[] course(SkinInRafters x, int i, int days) {
        int[] at = new int[days];
        for (int t = 1; t <= days; t++) {
            at[t - 1] = x.where(i, t);
        }
        return at;
    }

    static int[] sizes(SkinInRafters x, int i, int... days) {
        int[] sizes = new int[days.length];
        for (int k = 0; k < days.length; k++) {
            sizes[k] = x.size(i, days[k]);
        }
        return sizes;
    }

    /** Every answer that can be had without changing anything, as one text. */
    static String whole(SkinInRafters x) {
        StringBuilder all = new StringBuilder();
        for (int what = 0; what <= 6; what++) {
            all.append(x.count(what)).append(' ');
        }
        all.append(x.fault()).append(" places ");
        for (int p = 0; p < x.count(0); p++) {
            all.append(x.place(p, 0)).append(',').append(x.place(p, 1)).append(' ');
        }
        for (int i = 0; i < x.count(1); i++) {
            all.append("skin ");
            for (int what = 0; what <= 3; what++) {
                all.append(x.skin(i, what)).append(' ');
            }
            for (int what = 0; what <= 2; what++) {
                all.append(x.woman(i, what)).append(' ');
            }
            for (int t = 1; t <= 60; t++) {
                all.append(x.where(i, t)).append(',').append(x.size(i, t)).append(',').append(x.fits(i, t)).append(' ');
            }
            all.append(x.starts(i)).append(' ').append(x.laws(i)).append(' ');
            for (int what = 0; what <= 1; what++) {
                all.append(x.best(i, what)).append(' ').append(x.sure(i, what)).append(' ');
            }
        }
        for (int t = 1; t <= 80; t++) {
            all.append(x.gone(t)).append(' ');
        }
        return all.append(x.year(17, 0)).append(' ').append(x.year(17, 1)).toString();
    }
}
