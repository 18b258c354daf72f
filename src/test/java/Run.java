import java.util.ArrayList;
import java.util.List;
import java.util.function.ToIntFunction;

/**
 * An object and the calls made on it. The document promises nothing behind the 512th call, so a test that makes more
 * ends here; what else is to be known of the object is asked of twins, on which the same calls were made.
 */
final class Run {
    static final int MOST_CALLS = 512;

    private final SkinInRafters x = new SkinInRafters();
    private final List<ToIntFunction<SkinInRafters>> calls = new ArrayList<>();

    private int call(ToIntFunction<SkinInRafters> made) {
        if (calls.size() >= MOST_CALLS) {
            throw new IllegalStateException("the test makes more calls on one object than the document tells of");
        }
        calls.add(made);
        return made.applyAsInt(x);
    }

    int callsLeft() {
        return MOST_CALLS - calls.size();
    }

    int write(int n, long v) {
        return call(y -> y.write(n, v));
    }

    int wipe() {
        return call(y -> y.wipe());
    }

    int fault() {
        return call(y -> y.fault());
    }

    int lay() {
        return call(y -> y.lay());
    }

    int place(int p, int what) {
        return call(y -> y.place(p, what));
    }

    int skin(int i, int what) {
        return call(y -> y.skin(i, what));
    }

    int where(int i, int t) {
        return call(y -> y.where(i, t));
    }

    int size(int i, int t) {
        return call(y -> y.size(i, t));
    }

    int woman(int i, int what) {
        return call(y -> y.woman(i, what));
    }

    int fits(int i, int t) {
        return call(y -> y.fits(i, t));
    }

    int gone(int t) {
        return call(y -> y.gone(t));
    }

    int best(int i, int what) {
        return call(y -> y.best(i, what));
    }

    int hide(int i, int p) {
        return call(y -> y.hide(i, p));
    }

    int look(int i, int p, int t) {
        return call(y -> y.look(i, p, t));
    }

    int undo() {
        return call(y -> y.undo());
    }

    int seen(int i, int p, int t, boolean there) {
        return call(y -> y.seen(i, p, t, there));
    }

    int forget() {
        return call(y -> y.forget());
    }

    int starts(int i) {
        return call(y -> y.starts(i));
    }

    int laws(int i) {
        return call(y -> y.laws(i));
    }

    int sure(int i, int what) {
        return call(y -> y.sure(i, what));
    }

    int lots(int p, int house, int part) {
        return call(y -> y.lots(p, house, part));
    }

    int year(int z, int what) {
        return call(y -> y.year(z, what));
    }

    int keep() {
        return call(y -> y.keep());
    }

    int back() {
        return call(y -> y.back());
    }

    int count(int what) {
        return call(y -> y.count(what));
    }

    /** A twin of which so much more is to be asked. */
    private SkinInRafters twin(int more) {
        if (more > callsLeft() || more < 1) {
            throw new IllegalStateException("the test asks more of one object than the document tells of");
        }
        SkinInRafters twin = new SkinInRafters();
        for (ToIntFunction<SkinInRafters> made : calls) {
            made.applyAsInt(twin);
        }
        return twin;
    }

    /** How the town stands (not how it came to that): what can be asked without changing anything, as one text. */
    String town() {
        int places = twin(1).count(0);
        int skins = twin(1).count(1);
        StringBuilder all = new StringBuilder();
        ask(all, townCalls(places, skins));
        return all.toString();
    }

    /** All that stands: the town, and what undo, back and lay would make of it. */
    String whole() {
        int skins = twin(1).count(1);
        StringBuilder all = new StringBuilder(town());
        ask(all, List.of(y -> y.count(3), y -> y.count(4), y -> y.count(5), y -> y.count(6), y -> y.fault()));
        askAtOnce(all, repeated(9, y -> y.undo(), skins));
        askAtOnce(all, repeated(3, y -> y.back(), skins));
        askAtOnce(all, repeated(1, y -> y.lay(), skins));
        askAtOnce(all, repeated(1, y -> y.forget(), skins));
        return all.toString();
    }

    private static List<ToIntFunction<SkinInRafters>> townCalls(int places, int skins) {
        List<ToIntFunction<SkinInRafters>> asked = new ArrayList<>();
        asked.add(y -> y.count(0));
        asked.add(y -> y.count(1));
        asked.add(y -> y.count(2));
        for (int k = 0; k < places; k++) {
            int p = k;
            asked.add(y -> y.place(p, 0));
            asked.add(y -> y.place(p, 1));
            asked.add(y -> y.lots(p, -1, 0));
        }
        for (int k = 0; k < skins; k++) {
            addSkinCalls(asked, k);
        }
        for (int k = 1; k <= 80; k++) {
            int t = k;
            asked.add(y -> y.gone(t));
        }
        asked.add(y -> y.year(17, 0));
        asked.add(y -> y.year(17, 1));
        return asked;
    }

    private static void addSkinCalls(List<ToIntFunction<SkinInRafters>> asked, int i) {
        addShort(asked, i);
        asked.add(y -> y.skin(i, 1));
        asked.add(y -> y.skin(i, 2));
        for (int k = 1; k <= 60; k++) {
            int t = k;
            asked.add(y -> y.where(i, t));
            asked.add(y -> y.size(i, t));
            asked.add(y -> y.fits(i, t));
        }
        asked.add(y -> y.starts(i));
        asked.add(y -> y.laws(i));
        asked.add(y -> y.best(i, 0));
        asked.add(y -> y.best(i, 1));
        asked.add(y -> y.sure(i, 0));
        asked.add(y -> y.sure(i, 1));
    }

    private static void addShort(List<ToIntFunction<SkinInRafters>> asked, int i) {
        asked.add(y -> y.skin(i, 0));
        asked.add(y -> y.skin(i, 3));
        asked.add(y -> y.woman(i, 0));
        asked.add(y -> y.woman(i, 1));
        asked.add(y -> y.woman(i, 2));
    }

    /** A call so many times, and behind each how the town stands, shortly. */
    private static List<ToIntFunction<SkinInRafters>> repeated(int times, ToIntFunction<SkinInRafters> made, int skins) {
        List<ToIntFunction<SkinInRafters>> asked = new ArrayList<>();
        for (int k = 0; k < times; k++) {
            asked.add(made);
            asked.add(y -> y.count(2));
            for (int i = 0; i < skins; i++) {
                addShort(asked, i);
            }
        }
        return asked;
    }

    /** Asks as many twins as are needed. */
    private void ask(StringBuilder all, List<ToIntFunction<SkinInRafters>> asked) {
        int most = Math.max(1, callsLeft());
        for (int from = 0; from < asked.size(); from += most) {
            askAtOnce(all, asked.subList(from, Math.min(asked.size(), from + most)));
        }
    }

    /** Asks one twin. */
    private void askAtOnce(StringBuilder all, List<ToIntFunction<SkinInRafters>> asked) {
        SkinInRafters twin = twin(asked.size());
        for (ToIntFunction<SkinInRafters> one : asked) {
            all.append(one.applyAsInt(twin)).append(' ');
        }
    }
}
