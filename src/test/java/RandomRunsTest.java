import java.util.Random;

/** Long runs of calls drawn from a fixed seed, each answer beside the one of Model. */
final class RandomRunsTest {
    private static final Due due = new Due("RandomRunsTest");
    private static final int RUNS = 150;
    private static final int[] EXTREMES = {Integer.MIN_VALUE, Integer.MAX_VALUE, -2, 1 << 16, -70000, 256, 512};

    private final Random random;
    private final Run x = new Run();
    private final Model model = new Model();

    private RandomRunsTest(long seed) {
        random = new Random(seed);
    }

    public static void main(String[] args) {
        for (int run = 0; run < RUNS && !due.hasFailed(); run++) {
            new RandomRunsTest(run).run("run " + run);
        }
        due.end();
    }

    private void run(String name) {
        while (x.callsLeft() > 0 && !due.hasFailed()) {
            String text = random.nextInt(60) == 0 ? aText() : "";
            if (!text.isEmpty() && text.length() + 3 <= x.callsLeft()) {
                layATown(name, text);
            } else {
                callOne(name + ", " + x.callsLeft() + " calls left: ");
            }
        }
    }

    /** A number from low to high, at times one past them, seldom one far off. */
    private int about(int low, int high) {
        int dice = random.nextInt(60);
        if (dice == 0) {
            return EXTREMES[random.nextInt(EXTREMES.length)];
        }
        if (dice == 1) {
            return low - 1;
        }
        if (dice == 2) {
            return high + 1;
        }
        return low + random.nextInt(high - low + 1);
    }

    private int aPlace() {
        return about(0, model.count(0) - 1);
    }

    private int aSkin() {
        return about(0, model.count(1) - 1);
    }

    private int aDay() {
        return random.nextBoolean() ? about(1, 60) : about(1, 9);
    }

    private void layATown(String name, String town) {
        due.is(name + " wipe", x.wipe(), model.wipe());
        byte[] text = town.getBytes(java.nio.charset.StandardCharsets.ISO_8859_1);
        int n;
        for (int at = 0; at < text.length; at += n) {
            n = Math.min(1 + random.nextInt(8), text.length - at);
            long v = random.nextLong();
            for (int k = 0; k < n; k++) {
                v = v << 8 | text[at + k] & 255;
            }
            due.is(name + " write", x.write(n, v), model.write(n, v));
        }
        due.is(name + " fault", x.fault(), model.fault());
        due.is(name + " lay", x.lay(), model.lay());
    }

    private String aText() {
        StringBuilder text = new StringBuilder();
        int places = 1 + random.nextInt(9);
        int skins = 1 + random.nextInt(5);
        int wide = 1 + random.nextInt(17);
        int houses = 1 + random.nextInt(6);
        for (int k = 0; k < places; k++) {
            text.append('p').append(random.nextInt(houses)).append(',').append(1 + random.nextInt(10)).append(';');
        }
        for (int k = 0; k < skins; k++) {
            text.append('s').append(random.nextInt(places)).append(',').append(wide + random.nextInt(4)).append(',')
                    .append(random.nextInt(4)).append(';');
        }
        for (int k = random.nextInt(10); k > 0; k--) {
            text.append('l').append(random.nextInt(skins)).append(',').append(random.nextInt(places)).append(',')
                    .append(1 + random.nextInt(random.nextBoolean() ? 9 : 60)).append(';');
        }
        for (int k = random.nextInt(3); k > 0; k--) {
            text.append('w').append(random.nextInt(random.nextBoolean() ? 9 : 61)).append(';');
            text.append('t').append(1 + random.nextInt(20)).append(';');
        }
        if (random.nextInt(4) == 0) {
            String wrong = "0123456789,;pslwt ~\u00e9\u0000";
            text.setCharAt(random.nextInt(text.length()), wrong.charAt(random.nextInt(wrong.length())));
        }
        return text.toString();
    }

    private void callOne(String at) {
        switch (random.nextInt(5)) {
            case 0 -> callTowns(at);
            case 1 -> callDays(at);
            case 2 -> callHiding(at);
            case 3 -> callSeen(at);
            default -> callLots(at);
        }
    }

    private void callTowns(String at) {
        int what = about(0, 3);
        switch (random.nextInt(8)) {
            case 0 -> due.is(at + "fault", x.fault(), model.fault());
            case 1, 2 -> {
                int p = aPlace();
                due.is(at + "place " + p + " " + what, x.place(p, what), model.place(p, what));
            }
            case 3 -> {
                int n = about(1, 8);
                long v = random.nextLong();
                due.is(at + "write " + n + " " + v, x.write(n, v), model.write(n, v));
            }
            case 4 -> due.is(at + "lay", x.lay(), model.lay());
            case 5 -> due.is(at + "wipe", x.wipe(), model.wipe());
            default -> {
                int i = aSkin();
                due.is(at + "skin " + i + " " + what, x.skin(i, what), model.skin(i, what));
            }
        }
    }

    private void callDays(String at) {
        int i = aSkin();
        int t = aDay();
        int what = about(0, 2);
        switch (random.nextInt(5)) {
            case 0 -> due.is(at + "where " + i + " " + t, x.where(i, t), model.where(i, t));
            case 1 -> due.is(at + "size " + i + " " + t, x.size(i, t), model.size(i, t));
            case 2 -> due.is(at + "woman " + i + " " + what, x.woman(i, what), model.woman(i, what));
            case 3 -> due.is(at + "fits " + i + " " + t, x.fits(i, t), model.fits(i, t));
            default -> {
                int end = about(1, 80);
                due.is(at + "gone " + end, x.gone(end), model.gone(end));
            }
        }
    }

    private void callHiding(String at) {
        int i = aSkin();
        int p = aPlace();
        int t = aDay();
        int what = about(0, 1);
        switch (random.nextInt(5)) {
            case 0 -> due.is(at + "best " + i + " " + what, x.best(i, what), model.best(i, what));
            case 1 -> due.is(at + "hide " + i + " " + p, x.hide(i, p), model.hide(i, p));
            case 2, 3 -> due.is(at + "look " + i + " " + p + " " + t, x.look(i, p, t), model.look(i, p, t));
            default -> due.is(at + "undo", x.undo(), model.undo());
        }
    }

    private void callSeen(String at) {
        int i = aSkin();
        int p = aPlace();
        int t = aDay();
        int what = about(0, 1);
        boolean there = random.nextInt(3) == 0;
        switch (random.nextInt(9)) {
            case 0 -> {
                if (random.nextInt(4) == 0) {
                    due.is(at + "forget", x.forget(), model.forget());
                }
            }
            case 1, 2 -> due.is(at + "seen " + i + " " + p + " " + t + " " + there,
                    x.seen(i, p, t, there), model.seen(i, p, t, there));
            case 3, 4 -> due.is(at + "starts " + i, x.starts(i), model.starts(i));
            case 5, 6 -> due.is(at + "laws " + i, x.laws(i), model.laws(i));
            default -> due.is(at + "sure " + i + " " + what, x.sure(i, what), model.sure(i, what));
        }
    }

    private void callLots(String at) {
        int p = about(-1, model.count(0) - 1);
        int house = about(-1, 5);
        int what = about(0, 1);
        int z = about(0, 9999);
        switch (random.nextInt(6)) {
            case 0, 1 -> due.is(at + "lots " + p + " " + house + " " + what, x.lots(p, house, what), model.lots(p, house, what));
            case 2 -> due.is(at + "year " + z + " " + what, x.year(z, what), model.year(z, what));
            case 3 -> due.is(at + "keep", x.keep(), model.keep());
            case 4 -> due.is(at + "back", x.back(), model.back());
            default -> {
                int count = about(0, 6);
                due.is(at + "count " + count, x.count(count), model.count(count));
            }
        }
    }
}
