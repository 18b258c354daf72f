import java.math.BigInteger;
import java.util.ArrayDeque;
import java.util.ArrayList;
import java.util.Arrays;
import java.util.Collections;
import java.util.HashMap;
import java.util.HashSet;
import java.util.List;
import java.util.Map;
import java.util.Set;
import java.util.regex.Matcher;
import java.util.regex.Pattern;

/**
 * The document told a second time, slowly and in another way than the class: days are gone through one by one
 * with every skin's state, what was is copied whole, chances are fractions of big numbers.
 */
final class Model {
    static final int BAD = -1, NO = -2, FULL = -3, NONE = -4;
    private static final Pattern ITEM = Pattern.compile("([pslwt])(\\d{1,2}(?:,\\d{1,2})*);", Pattern.DOTALL);

    private record Place(int house, int view) { }

    private record Skin(int size, int kind) { }

    private record Look(int woman, int place, int day) { }

    private record Sight(int skin, int place, int day, boolean there) { }

    /** What hide and look change. */
    private record State(List<Integer> starts, List<Look> looks) { }

    private record Town(List<Place> places, List<Skin> skins, int smoke, int tide, State state) { }

    private record Reading(int fault, Town town) { }

    private String text = "";
    private Town town;
    private State state;
    private List<Sight> sights = new ArrayList<>();
    private final ArrayDeque<State> undone = new ArrayDeque<>();
    private final ArrayDeque<State> kept = new ArrayDeque<>();
    // Where skins go from each place by each kind in this town, and the tale of this state: told once, as both are long.
    private final Map<Integer, int[]> walks = new HashMap<>();
    private State toldOf;
    private Tale told;

    Model() {
        text = "p0,5;p0,5;p1,2;s0,6,0;s2,6,1;l0,1,1;l1,2,2;";
        lay();
        text = "";
    }

    // ---- towns

    int write(int n, long v) {
        if (n < 1 || n > 8) {
            return BAD;
        }
        if (text.length() + n > 300) {
            return FULL;
        }
        byte[] eight = java.nio.ByteBuffer.allocate(8).putLong(v).array();
        text += new String(eight, 8 - n, n, java.nio.charset.StandardCharsets.ISO_8859_1);
        return text.length();
    }

    int wipe() {
        int length = text.length();
        text = "";
        return length;
    }

    int fault() {
        return read(text).fault;
    }

    int lay() {
        Reading reading = read(text);
        if (reading.fault != NONE) {
            return NO;
        }
        Town t = reading.town;
        Set<Integer> told = new HashSet<>(t.state.starts);
        t.state.looks.forEach(l -> told.add(l.place));
        if (t.places.isEmpty() || t.skins.isEmpty() || told.stream().anyMatch(p -> p >= t.places.size())) {
            return NO;
        }
        town = t;
        state = t.state;
        sights.clear();
        undone.clear();
        kept.clear();
        walks.clear();
        return t.skins.size();
    }

    private static Reading read(String text) {
        List<Place> places = new ArrayList<>();
        List<Skin> skins = new ArrayList<>();
        List<Integer> starts = new ArrayList<>();
        List<Look> looks = new ArrayList<>();
        int smoke = 0;
        int tide = 1;
        Matcher m = ITEM.matcher(text);
        int at = 0;
        while (at < text.length()) {
            m.region(at, text.length());
            if (!m.lookingAt()) {
                return new Reading(at, null);
            }
            int[] n = Arrays.stream(m.group(2).split(",")).mapToInt(Integer::parseInt).toArray();
            boolean so;
            switch (m.group(1)) {
                case "p" -> {
                    so = n.length == 2 && n[0] <= 5 && n[1] >= 1 && n[1] <= 10 && places.size() < 9;
                    if (so) {
                        places.add(new Place(n[0], n[1]));
                    }
                }
                case "s" -> {
                    so = n.length == 3 && n[0] <= 8 && n[1] >= 1 && n[1] <= 20 && n[2] <= 3 && skins.size() < 5;
                    if (so) {
                        skins.add(new Skin(n[1], n[2]));
                        starts.add(n[0]);
                    }
                }
                case "l" -> {
                    so = n.length == 3 && n[0] < skins.size() && n[1] <= 8 && n[2] >= 1 && n[2] <= 60 && looks.size() < 9;
                    if (so) {
                        looks.add(new Look(n[0], n[1], n[2]));
                    }
                }
                case "w" -> {
                    so = n.length == 1 && n[0] <= 60;
                    smoke = so ? n[0] : smoke;
                }
                default -> {
                    so = n.length == 1 && n[0] >= 1 && n[0] <= 20;
                    tide = so ? n[0] : tide;
                }
            }
            if (!so) {
                return new Reading(at, null);
            }
            at = m.end();
        }
        return new Reading(NONE, new Town(places, skins, smoke, tide, new State(starts, looks)));
    }

    int place(int p, int what) {
        if (!isPlace(p) || what < 0 || what > 1) {
            return BAD;
        }
        return what == 0 ? town.places.get(p).house : town.places.get(p).view;
    }

    int skin(int i, int what) {
        if (!isSkin(i) || what < 0 || what > 3) {
            return BAD;
        }
        return new int[] {state.starts.get(i), town.skins.get(i).size, town.skins.get(i).kind, tale().finder[i]}[what];
    }

    private boolean isPlace(int p) {
        return 0 <= p && p < town.places.size();
    }

    private boolean isSkin(int i) {
        return 0 <= i && i < town.skins.size();
    }

    // ---- days

    /** The sixty days, told. */
    private static final class Tale {
        int[][] at, size;
        int[] finder, prize, day, leave;
    }

    /** One night's move: the place then, and for FRO the way (+1 or -1). */
    private int[] moved(int kind, int at, int way) {
        int n = town.places.size();
        if (kind == 0 || n == 1) {
            return new int[] {at, way};
        }
        if (kind == 2) {
            int turned = at + way < 0 || at + way >= n ? -way : way;
            return new int[] {at + turned, turned};
        }
        if (kind == 3) {
            int house = town.places.get(at).house;
            for (int p = 0; p < n; p++) {
                if (town.places.get(p).house == house) {
                    if (p != at) {
                        return new int[] {p, way};
                    }
                    break;
                }
            }
        }
        return new int[] {(at + 1) % n, way};
    }

    private Tale tale() {
        if (toldOf != state) {
            told = tell(state.starts);
            toldOf = state;
        }
        return told;
    }

    private Tale tell(List<Integer> starts) {
        int skins = town.skins.size();
        Tale tale = new Tale();
        tale.at = new int[skins][61];
        tale.size = new int[skins][61];
        tale.finder = filled(skins);
        tale.prize = filled(skins);
        tale.day = filled(skins);
        tale.leave = filled(skins);
        int[] at = starts.stream().mapToInt(Integer::intValue).toArray();
        int[] way = new int[skins];
        Arrays.fill(way, 1);
        int[] size = town.skins.stream().mapToInt(Skin::size).toArray();
        for (int day = 1; day <= 60; day++) {
            for (int i = 0; i < skins; i++) {
                if (town.smoke > 0 && day % town.smoke == 0 && size[i] > 1) {
                    size[i]--;
                }
                tale.at[i][day] = tale.finder[i] == NONE ? at[i] : NONE;
                tale.size[i][day] = tale.finder[i] == NONE ? size[i] : NONE;
            }
            for (Look look : state.looks) {
                if (look.day != day || tale.prize[look.woman] != NONE) {
                    continue;
                }
                for (int i = 0; i < skins; i++) {
                    if (tale.finder[i] == NONE && at[i] == look.place && near(size[i], look.woman)) {
                        tale.finder[i] = look.woman;
                        tale.prize[look.woman] = i;
                        tale.day[look.woman] = day;
                        int leave = day;
                        while (leave % town.tide != 0) {
                            leave++;
                        }
                        tale.leave[look.woman] = leave;
                        break;
                    }
                }
            }
            for (int i = 0; i < skins; i++) {
                int[] next = moved(town.skins.get(i).kind, at[i], way[i]);
                at[i] = next[0];
                way[i] = next[1];
            }
        }
        return tale;
    }

    private static int[] filled(int n) {
        int[] row = new int[n];
        Arrays.fill(row, NONE);
        return row;
    }

    private boolean near(int size, int woman) {
        int own = town.skins.get(woman).size;
        return own - 2 <= size && size <= own + 2;
    }

    private static boolean isDay(int t) {
        return 1 <= t && t <= 60;
    }

    int where(int i, int t) {
        return isSkin(i) && isDay(t) ? tale().at[i][t] : BAD;
    }

    int size(int i, int t) {
        return isSkin(i) && isDay(t) ? tale().size[i][t] : BAD;
    }

    int woman(int i, int what) {
        if (!isSkin(i) || what < 0 || what > 2) {
            return BAD;
        }
        Tale tale = tale();
        return new int[][] {tale.prize, tale.day, tale.leave}[what][i];
    }

    int fits(int i, int t) {
        if (!isSkin(i) || !isDay(t)) {
            return BAD;
        }
        int bits = 0;
        for (int k = 0; k < town.skins.size(); k++) {
            int size = town.skins.get(k).size;
            for (int day = 1; day <= t; day++) {
                if (town.smoke > 0 && day % town.smoke == 0) {
                    size = size > 1 ? size - 1 : 1;
                }
            }
            if (near(size, i)) {
                bits += 1 << k;
            }
        }
        return bits;
    }

    int gone(int t) {
        if (t < 1 || t > 80) {
            return BAD;
        }
        return (int) Arrays.stream(tale().leave).filter(day -> day != NONE && day <= t).count();
    }

    // ---- hiding, looking

    int best(int i, int what) {
        if (!isSkin(i) || what < 0 || what > 1) {
            return BAD;
        }
        List<Integer> days = new ArrayList<>();
        for (int p = 0; p < town.places.size(); p++) {
            List<Integer> starts = new ArrayList<>(state.starts);
            starts.set(i, p);
            int day = tell(starts).day[i];
            days.add(day == NONE ? 1000 : day);
        }
        int latest = Collections.max(days);
        return what == 0 ? days.indexOf(latest) : latest == 1000 ? NONE : latest;
    }

    private void change(State next) {
        undone.push(state);
        if (undone.size() > 8) {
            undone.removeLast();
        }
        state = next;
    }

    int hide(int i, int p) {
        if (!isSkin(i) || !isPlace(p)) {
            return BAD;
        }
        List<Integer> starts = new ArrayList<>(state.starts);
        int former = starts.set(i, p);
        change(new State(starts, state.looks));
        return former;
    }

    int look(int i, int p, int t) {
        if (!isSkin(i) || !isPlace(p) || !isDay(t)) {
            return BAD;
        }
        if (state.looks.size() == 9) {
            return FULL;
        }
        List<Look> looks = new ArrayList<>(state.looks);
        looks.add(new Look(i, p, t));
        change(new State(state.starts, looks));
        return looks.size();
    }

    int undo() {
        if (undone.isEmpty()) {
            return NO;
        }
        state = undone.pop();
        return undone.size();
    }

    // ---- what was seen

    int seen(int i, int p, int t, boolean there) {
        if (!isSkin(i) || !isPlace(p) || !isDay(t)) {
            return BAD;
        }
        if (sights.size() == 8) {
            return FULL;
        }
        sights.add(new Sight(i, p, t, there));
        return sights.size();
    }

    int forget() {
        int former = sights.size();
        sights = new ArrayList<>();
        return former;
    }

    private int placeOn(int kind, int start, int day) {
        int[] walk = walks.computeIfAbsent(10 * kind + start, key -> new int[61]);
        int[] now = {start, 1};
        for (int t = 1; t <= 60 && walk[60] == 0; t++) {
            // One more than the place, so that 0 is a day that was not walked yet.
            walk[t] = now[0] + 1;
            now = moved(kind, now[0], now[1]);
        }
        return walk[day] - 1;
    }

    private boolean agrees(int i, int kind, int start) {
        return sights.stream().filter(s -> s.skin == i).allMatch(s -> s.there == (placeOn(kind, start, s.day) == s.place));
    }

    int starts(int i) {
        if (!isSkin(i)) {
            return BAD;
        }
        int bits = 0;
        for (int p = 0; p < town.places.size(); p++) {
            bits += agrees(i, town.skins.get(i).kind, p) ? 1 << p : 0;
        }
        return bits;
    }

    int laws(int i) {
        if (!isSkin(i)) {
            return BAD;
        }
        int bits = 0;
        for (int kind = 0; kind <= 3; kind++) {
            bits += agrees(i, kind, state.starts.get(i)) ? 1 << kind : 0;
        }
        return bits;
    }

    /** In how many days from this one on these starts (bits) can all be met; 1000 if not by day 40. */
    private int daysToMeet(int left, int kind, int day, Map<Integer, Integer> known) {
        if (left == 0) {
            return 0;
        }
        if (day > 40) {
            return 1000;
        }
        Integer before = known.get(1000 * left + day);
        if (before != null) {
            return before;
        }
        int fewest = 1000;
        for (int p = 0; p < town.places.size(); p++) {
            fewest = Math.min(fewest, 1 + daysToMeet(unmet(left, kind, day, p), kind, day + 1, known));
        }
        known.put(1000 * left + day, fewest);
        return fewest;
    }

    private int unmet(int left, int kind, int day, int p) {
        int unmet = 0;
        for (int start = 0; start < town.places.size(); start++) {
            boolean met = placeOn(kind, start, day) == p;
            unmet += met ? 0 : left & 1 << start;
        }
        return unmet;
    }

    int sure(int i, int what) {
        if (!isSkin(i) || what < 0 || what > 1) {
            return BAD;
        }
        int starts = starts(i);
        int kind = town.skins.get(i).kind;
        Map<Integer, Integer> known = new HashMap<>();
        int days = daysToMeet(starts, kind, 1, known);
        if (what == 0) {
            return days >= 1000 ? NONE : days;
        }
        for (int p = 0; p < town.places.size() && days > 0 && days < 1000; p++) {
            if (1 + daysToMeet(unmet(starts, kind, 1, p), kind, 2, known) == days) {
                return p;
            }
        }
        return NONE;
    }

    // ---- lots, years

    int lots(int p, int house, int part) {
        if (p != -1 && !isPlace(p) || house < -1 || house > 5 || part < 0 || part > 1) {
            return BAD;
        }
        BigInteger ten = BigInteger.TEN;
        // The sum of 10 by D, as a fraction.
        BigInteger above = BigInteger.ZERO;
        BigInteger below = BigInteger.ONE;
        boolean found = p == -1;
        for (int k = 0; k < town.places.size(); k++) {
            Place place = town.places.get(k);
            if (house == -1 || place.house == house) {
                BigInteger view = BigInteger.valueOf(place.view);
                above = above.multiply(view).add(ten.multiply(below));
                below = below.multiply(view);
                found |= k == p;
            }
        }
        if (!found || above.signum() == 0) {
            return NO;
        }
        // She sees it by v = 1 by that sum; it is at p by v times 10 by D.
        BigInteger[] chance = {below, above};
        if (p >= 0) {
            chance = new BigInteger[] {below.multiply(ten), above.multiply(BigInteger.valueOf(town.places.get(p).view))};
        }
        return chance[part].divide(chance[0].gcd(chance[1])).intValueExact();
    }

    int year(int z, int what) {
        if (z < 0 || z > 9999 || what < 0 || what > 1) {
            return BAD;
        }
        List<Integer> starts = new ArrayList<>();
        for (int i = 0; i < town.skins.size(); i++) {
            BigInteger x = BigInteger.valueOf(7919L * z).add(BigInteger.valueOf(6151L * i + 1));
            starts.add(x.modPow(BigInteger.TWO, BigInteger.valueOf(65521)).intValue() % town.places.size());
        }
        int[] leave = Arrays.stream(tell(starts).leave).filter(day -> day != NONE && day <= 60).toArray();
        return what == 0 ? leave.length : Arrays.stream(leave).max().orElse(NONE);
    }

    int keep() {
        if (kept.size() == 2) {
            return FULL;
        }
        kept.push(state);
        return kept.size();
    }

    int back() {
        if (kept.isEmpty()) {
            return NO;
        }
        state = kept.pop();
        undone.clear();
        return kept.size();
    }

    int count(int what) {
        int[] counts = {town.places.size(), town.skins.size(), state.looks.size(), sights.size(), undone.size(), kept.size(), text.length()};
        return what < 0 || what >= counts.length ? BAD : counts[what];
    }
}
