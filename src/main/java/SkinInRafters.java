import java.util.Arrays;

/** Women of the sea, their hidden skins, and who finds which: ../shared/DOC.md tells what each call answers. */
public final class SkinInRafters {
    public static final int BAD = -1, NO = -2, FULL = -3, NONE = -4;

    private static final String FIRST_TEXT = "p0,5;p0,5;p1,2;s0,6,0;s2,6,1;l0,1,1;l1,2,2;";
    private static final int MOST_BYTES = 300, MOST_NUMBERS = 3;
    private static final int MOST_PLACES = 9, MOST_SKINS = 5, MOST_LOOKS = 9;
    private static final int MOST_SEEN = 8, MOST_UNDONE = 8;
    private static final int LAST_HOUSE = 5, MOST_VIEW = 10, MOST_SIZE = 20, MOST_SMOKE = 60, MOST_TIDE = 20;
    private static final int LAST_DAY = 60, LAST_TIDE_DAY = 80, LAST_SEARCH_DAY = 40, LAST_YEAR = 9999;
    // STAY, 0, needs no name: what is moved by none of these stays.
    private static final int NEXT = 1, FRO = 2, HOME = 3, KINDS = 4;
    private static final int NEAR_ENOUGH = 2;
    // The least number that 1 to 10 all part: with it each chance of LOTS is a whole number of parts.
    private static final int PARTS = 2520;

    private final Scroll text = new Scroll();
    private Town town = new Town();
    // A text is read into a town aside, so that a text that is not LAID changes nothing.
    private Town draft = new Town();
    private final Course course = new Course();
    private final Course trial = new Course();
    private final int[] trialStart = new int[MOST_SKINS];
    private final Sightings sightings = new Sightings();
    private final Search search = new Search();
    private final Changes changes = new Changes();
    private final Shelf shelf = new Shelf();

    public SkinInRafters() {
        for (int k = 0; k < FIRST_TEXT.length(); k++) {
            text.append(1, FIRST_TEXT.charAt(k));
        }
        layText();
        text.length = 0;
    }

    // ---- towns

    public int write(int n, long v) {
        if (n < 1 || n > 8) {
            return BAD;
        }
        if (text.length + n > MOST_BYTES) {
            return FULL;
        }
        text.append(n, v);
        return text.length;
    }

    public int wipe() {
        int former = text.length;
        text.length = 0;
        return former;
    }

    public int fault() {
        return text.readInto(draft);
    }

    public int lay() {
        return layText() ? town.skins : NO;
    }

    public int place(int p, int what) {
        if (!town.hasPlace(p)) {
            return BAD;
        }
        switch (what) {
            case 0: return town.house[p];
            case 1: return town.view[p];
            default: return BAD;
        }
    }

    public int skin(int i, int what) {
        if (!town.hasSkin(i)) {
            return BAD;
        }
        switch (what) {
            case 0: return town.hiding.start[i];
            case 1: return town.girth[i];
            case 2: return town.kind[i];
            case 3: return course.finder[i];
            default: return BAD;
        }
    }

    // ---- days

    public int where(int i, int t) {
        if (!town.hasSkin(i) || !isDay(t)) {
            return BAD;
        }
        return course.isFoundBefore(i, t) ? NONE : course.path[i][t];
    }

    public int size(int i, int t) {
        if (!town.hasSkin(i) || !isDay(t)) {
            return BAD;
        }
        return course.isFoundBefore(i, t) ? NONE : town.girthOn(i, t);
    }

    public int woman(int i, int what) {
        if (!town.hasSkin(i)) {
            return BAD;
        }
        switch (what) {
            case 0: return course.prize[i];
            case 1: return course.prizeDay[i];
            case 2: return course.leaveDay(i, town);
            default: return BAD;
        }
    }

    public int fits(int i, int t) {
        if (!town.hasSkin(i) || !isDay(t)) {
            return BAD;
        }
        int bits = 0;
        for (int k = 0; k < town.skins; k++) {
            if (town.suits(i, k, t)) {
                bits |= 1 << k;
            }
        }
        return bits;
    }

    public int gone(int t) {
        if (t < 1 || t > LAST_TIDE_DAY) {
            return BAD;
        }
        return course.leaversBy(t, town);
    }

    // ---- hiding, looking

    public int best(int i, int what) {
        if (!town.hasSkin(i) || !isZeroOrOne(what)) {
            return BAD;
        }
        System.arraycopy(town.hiding.start, 0, trialStart, 0, MOST_SKINS);
        int bestPlace = 0;
        int bestDay = 0;
        for (int p = 0; p < town.places; p++) {
            trialStart[i] = p;
            trial.run(town, trialStart);
            int day = trial.prizeDay[i] == NONE ? LAST_DAY + 1 : trial.prizeDay[i];
            if (day > bestDay) {
                bestDay = day;
                bestPlace = p;
            }
        }
        if (what == 0) {
            return bestPlace;
        }
        return bestDay > LAST_DAY ? NONE : bestDay;
    }

    public int hide(int i, int p) {
        if (!town.hasSkin(i) || !town.hasPlace(p)) {
            return BAD;
        }
        int former = town.hiding.start[i];
        changes.note(i, former);
        town.hiding.start[i] = p;
        followCourse();
        return former;
    }

    public int look(int i, int p, int t) {
        if (!town.hasSkin(i) || !town.hasPlace(p) || !isDay(t)) {
            return BAD;
        }
        if (!town.hiding.addLook(i, p, t)) {
            return FULL;
        }
        changes.note(Changes.A_LOOK, 0);
        followCourse();
        return town.hiding.looks;
    }

    public int undo() {
        if (!changes.takeBack(town.hiding)) {
            return NO;
        }
        followCourse();
        return changes.held;
    }

    // ---- what was seen

    public int seen(int i, int p, int t, boolean there) {
        if (!town.hasSkin(i) || !town.hasPlace(p) || !isDay(t)) {
            return BAD;
        }
        return sightings.add(i, p, t, there) ? sightings.held : FULL;
    }

    public int forget() {
        int former = sightings.held;
        sightings.held = 0;
        return former;
    }

    public int starts(int i) {
        return town.hasSkin(i) ? possibleStarts(i) : BAD;
    }

    public int laws(int i) {
        if (!town.hasSkin(i)) {
            return BAD;
        }
        int bits = 0;
        for (int kind = 0; kind < KINDS; kind++) {
            if (sightings.agree(town, i, town.hiding.start[i], kind)) {
                bits |= 1 << kind;
            }
        }
        return bits;
    }

    public int sure(int i, int what) {
        if (!town.hasSkin(i) || !isZeroOrOne(what)) {
            return BAD;
        }
        search.run(town, town.kind[i], possibleStarts(i));
        return what == 0 ? search.days : search.firstPlace;
    }

    // ---- lots, years

    public int lots(int p, int house, int part) {
        if (p != -1 && !town.hasPlace(p) || house < -1 || house > LAST_HOUSE || !isZeroOrOne(part)) {
            return BAD;
        }
        if (p != -1 && !town.isIn(p, house)) {
            return NO;
        }
        int whole = 0;
        for (int k = 0; k < town.places; k++) {
            if (town.isIn(k, house)) {
                whole += town.partsOf(k);
            }
        }
        if (whole < 1) {
            return NO;
        }
        // She sees it by D of ten of what lies at a place: the same at each, as the parts go by 1 of D.
        int above = p == -1 ? PARTS / 10 : town.partsOf(p);
        int common = commonDivisor(above, whole);
        return common < 1 ? NO : (part == 0 ? above : whole) / common;
    }

    public int year(int z, int what) {
        if (z < 0 || z > LAST_YEAR || !isZeroOrOne(what)) {
            return BAD;
        }
        for (int i = 0; i < town.skins; i++) {
            trialStart[i] = drawnPlace(z, i);
        }
        trial.run(town, trialStart);
        return what == 0 ? trial.leaversBy(LAST_DAY, town) : trial.lastLeaveBy(LAST_DAY, town);
    }

    public int keep() {
        return shelf.put(town.hiding) ? shelf.held : FULL;
    }

    public int back() {
        if (!shelf.takeLast(town.hiding)) {
            return NO;
        }
        changes.held = 0;
        followCourse();
        return shelf.held;
    }

    public int count(int what) {
        switch (what) {
            case 0: return town.places;
            case 1: return town.skins;
            case 2: return town.hiding.looks;
            case 3: return sightings.held;
            case 4: return changes.held;
            case 5: return shelf.held;
            case 6: return text.length;
            default: return BAD;
        }
    }

    private boolean layText() {
        if (text.readInto(draft) != NONE || !draft.canBeLaid()) {
            return false;
        }
        Town former = town;
        town = draft;
        draft = former;
        sightings.held = 0;
        changes.held = 0;
        shelf.held = 0;
        followCourse();
        return true;
    }

    private void followCourse() {
        course.run(town, town.hiding.start);
    }

    private int possibleStarts(int i) {
        int bits = 0;
        for (int p = 0; p < town.places; p++) {
            if (sightings.agree(town, i, p, town.kind[i])) {
                bits |= 1 << p;
            }
        }
        return bits;
    }

    private int drawnPlace(int z, int i) {
        long x = 7919L * z + 6151L * i + 1L;
        return town.places < 1 ? 0 : (int) (x * x % 65521L % town.places);
    }

    private static boolean isDay(int t) {
        return t >= 1 && t <= LAST_DAY;
    }

    private static boolean isZeroOrOne(int what) {
        return what == 0 || what == 1;
    }

    private static int commonDivisor(int a, int b) {
        int larger = a;
        int smaller = b;
        // Two steps at least halve the larger number, so 64 are enough for any two.
        for (int step = 0; step < 64 && smaller != 0; step++) {
            int rest = larger % smaller;
            larger = smaller;
            smaller = rest;
        }
        return larger;
    }

    /** THE TEXT and how it is read. */
    private static final class Scroll {
        final byte[] bytes = new byte[MOST_BYTES];
        int length = 0;
        // The numbers of the item that is being read.
        final int[] numbers = new int[MOST_NUMBERS];

        void append(int n, long v) {
            for (int k = n - 1; k >= 0 && length < MOST_BYTES; k--) {
                bytes[length] = (byte) (v >>> (8 * k));
                length++;
            }
        }

        int readInto(Town into) {
            into.empty();
            int at = 0;
            while (at < length) {
                int behind = readItem(at, into);
                if (behind <= at) {
                    return at;
                }
                at = behind;
            }
            return NONE;
        }

        /** Where the next item begins, or NONE if this one is not so. */
        private int readItem(int at, Town into) {
            char letter = (char) (bytes[at] & 255);
            int wanted = numbersBehind(letter);
            int behind = wanted > 0 ? at + 1 : NONE;
            for (int k = 0; k < wanted && behind >= 0; k++) {
                behind = readNumber(behind, k, k + 1 < wanted ? ',' : ';');
            }
            return behind >= 0 && into.accept(letter, numbers[0], numbers[1], numbers[2]) ? behind : NONE;
        }

        /** What is behind a number and the sign that ends it, or NONE if they are not so. */
        private int readNumber(int at, int k, char end) {
            int value = 0;
            int behind = at;
            while (behind < at + 2 && holds(behind, '0', '9')) {
                value = value * 10 + bytes[behind] - '0';
                behind++;
            }
            if (behind == at || !holds(behind, end, end)) {
                return NONE;
            }
            numbers[k] = value;
            return behind + 1;
        }

        private boolean holds(int at, char lowest, char highest) {
            return at < length && bytes[at] >= lowest && bytes[at] <= highest;
        }

        private static int numbersBehind(char letter) {
            switch (letter) {
                case 'p': return 2;
                case 's': return 3;
                case 'l': return 3;
                case 'w': return 1;
                case 't': return 1;
                default: return 0;
            }
        }
    }

    /** What can become another by calls: where the skins are at first, and the looks. */
    private static final class Hiding {
        final int[] start = new int[MOST_SKINS];
        int looks = 0;
        final int[] looker = new int[MOST_LOOKS];
        final int[] lookPlace = new int[MOST_LOOKS];
        final int[] lookDay = new int[MOST_LOOKS];

        boolean addLook(int i, int p, int t) {
            if (looks >= MOST_LOOKS) {
                return false;
            }
            looker[looks] = i;
            lookPlace[looks] = p;
            lookDay[looks] = t;
            looks++;
            return true;
        }

        void copyOf(Hiding other) {
            System.arraycopy(other.start, 0, start, 0, MOST_SKINS);
            System.arraycopy(other.looker, 0, looker, 0, MOST_LOOKS);
            System.arraycopy(other.lookPlace, 0, lookPlace, 0, MOST_LOOKS);
            System.arraycopy(other.lookDay, 0, lookDay, 0, MOST_LOOKS);
            looks = other.looks;
        }
    }

    /** What a text tells. */
    private static final class Town {
        int places = 0;
        final int[] house = new int[MOST_PLACES];
        final int[] view = new int[MOST_PLACES];
        int skins = 0;
        final int[] girth = new int[MOST_SKINS];
        final int[] kind = new int[MOST_SKINS];
        int smoke = 0;
        int tide = 1;
        final Hiding hiding = new Hiding();

        void empty() {
            places = 0;
            skins = 0;
            hiding.looks = 0;
            smoke = 0;
            tide = 1;
        }

        boolean accept(char letter, int a, int b, int c) {
            switch (letter) {
                case 'p': return addPlace(a, b);
                case 's': return addSkin(a, b, c);
                case 'l': return hasSkin(a) && b < MOST_PLACES && isDay(c) && hiding.addLook(a, b, c);
                case 'w': return setSmoke(a);
                case 't': return setTide(a);
                default: return false;
            }
        }

        private boolean addPlace(int inHouse, int seenBy) {
            if (places >= MOST_PLACES || inHouse > LAST_HOUSE || seenBy < 1 || seenBy > MOST_VIEW) {
                return false;
            }
            house[places] = inHouse;
            view[places] = seenBy;
            places++;
            return true;
        }

        private boolean addSkin(int atFirst, int wide, int moved) {
            if (skins >= MOST_SKINS || atFirst >= MOST_PLACES || wide < 1 || wide > MOST_SIZE || moved >= KINDS) {
                return false;
            }
            hiding.start[skins] = atFirst;
            girth[skins] = wide;
            kind[skins] = moved;
            skins++;
            return true;
        }

        private boolean setSmoke(int days) {
            if (days > MOST_SMOKE) {
                return false;
            }
            smoke = days;
            return true;
        }

        private boolean setTide(int days) {
            if (days < 1 || days > MOST_TIDE) {
                return false;
            }
            tide = days;
            return true;
        }

        boolean canBeLaid() {
            for (int i = 0; i < skins; i++) {
                if (!hasPlace(hiding.start[i])) {
                    return false;
                }
            }
            for (int k = 0; k < hiding.looks; k++) {
                if (!hasPlace(hiding.lookPlace[k])) {
                    return false;
                }
            }
            return places > 0 && skins > 0;
        }

        boolean hasPlace(int p) {
            return p >= 0 && p < places;
        }

        /** A woman is there if her skin is. */
        boolean hasSkin(int i) {
            return i >= 0 && i < skins;
        }

        /** In the house, or in any of them for -1. */
        boolean isIn(int p, int oneHouse) {
            return oneHouse == -1 || house[p] == oneHouse;
        }

        int partsOf(int p) {
            return view[p] < 1 ? 0 : PARTS / view[p];
        }

        int girthOn(int i, int day) {
            int smaller = smoke < 1 ? girth[i] : girth[i] - day / smoke;
            return smaller < 1 ? 1 : smaller;
        }

        boolean suits(int woman, int i, int day) {
            return Math.abs(girthOn(i, day) - girth[woman]) <= NEAR_ENOUGH;
        }

        int tideFrom(int day) {
            int rest = tide < 1 ? 0 : day % tide;
            return rest == 0 ? day : day + tide - rest;
        }

        /** Where a skin that nobody finds is from day 1 to the last one. */
        void walk(int start, int by, int[] path) {
            int at = start;
            boolean down = false;
            for (int day = 1; day <= LAST_DAY && day < path.length; day++) {
                path[day] = at;
                if (by == FRO) {
                    down = at > 0 && (down || at >= places - 1);
                    at = afterFro(at, down);
                } else {
                    at = afterNight(at, by);
                }
            }
        }

        private int afterFro(int at, boolean down) {
            if (places < 2) {
                return at;
            }
            return down ? at - 1 : at + 1;
        }

        private int afterNight(int at, int by) {
            switch (by) {
                case NEXT: return afterNext(at);
                case HOME: return lowestBeside(at) < at ? lowestBeside(at) : afterNext(at);
                default: return at;
            }
        }

        private int afterNext(int at) {
            return at + 1 < places ? at + 1 : 0;
        }

        private int lowestBeside(int at) {
            for (int p = 0; p < at; p++) {
                if (house[p] == house[at]) {
                    return p;
                }
            }
            return at;
        }
    }

    /** What happens day by day, the skins being at given places at first. */
    private static final class Course {
        final int[][] path = new int[MOST_SKINS][LAST_DAY + 1];
        // Of each skin the woman, of each woman the skin and the day, or NONE.
        final int[] finder = new int[MOST_SKINS];
        final int[] prize = new int[MOST_SKINS];
        final int[] prizeDay = new int[MOST_SKINS];

        void run(Town town, int[] start) {
            Arrays.fill(finder, NONE);
            Arrays.fill(prize, NONE);
            Arrays.fill(prizeDay, NONE);
            for (int i = 0; i < town.skins; i++) {
                town.walk(start[i], town.kind[i], path[i]);
            }
            Hiding hiding = town.hiding;
            for (int day = 1; day <= LAST_DAY; day++) {
                for (int k = 0; k < hiding.looks; k++) {
                    if (hiding.lookDay[k] == day) {
                        lookFor(town, hiding.looker[k], hiding.lookPlace[k], day);
                    }
                }
            }
        }

        private void lookFor(Town town, int woman, int p, int day) {
            for (int i = 0; i < town.skins && prize[woman] == NONE; i++) {
                if (finder[i] == NONE && path[i][day] == p && town.suits(woman, i, day)) {
                    finder[i] = woman;
                    prize[woman] = i;
                    prizeDay[woman] = day;
                }
            }
        }

        boolean isFoundBefore(int i, int day) {
            return finder[i] != NONE && prizeDay[finder[i]] < day;
        }

        int leaveDay(int woman, Town town) {
            return prizeDay[woman] == NONE ? NONE : town.tideFrom(prizeDay[woman]);
        }

        int leaversBy(int day, Town town) {
            int leavers = 0;
            for (int i = 0; i < town.skins; i++) {
                if (leavesBy(i, day, town)) {
                    leavers++;
                }
            }
            return leavers;
        }

        int lastLeaveBy(int day, Town town) {
            int last = NONE;
            for (int i = 0; i < town.skins; i++) {
                if (leavesBy(i, day, town)) {
                    last = Math.max(last, leaveDay(i, town));
                }
            }
            return last;
        }

        private boolean leavesBy(int woman, int day, Town town) {
            return prizeDay[woman] != NONE && leaveDay(woman, town) <= day;
        }
    }

    /** SEEN, and whether a skin moved in some way agrees with it. */
    private static final class Sightings {
        int held = 0;
        final int[] skinSeen = new int[MOST_SEEN];
        final int[] placeSeen = new int[MOST_SEEN];
        final int[] daySeen = new int[MOST_SEEN];
        final boolean[] wasThere = new boolean[MOST_SEEN];
        private final int[] path = new int[LAST_DAY + 1];

        boolean add(int i, int p, int t, boolean there) {
            if (held >= MOST_SEEN) {
                return false;
            }
            skinSeen[held] = i;
            placeSeen[held] = p;
            daySeen[held] = t;
            wasThere[held] = there;
            held++;
            return true;
        }

        boolean agree(Town town, int i, int start, int kind) {
            town.walk(start, kind, path);
            for (int k = 0; k < held; k++) {
                if (skinSeen[k] == i && (path[daySeen[k]] == placeSeen[k]) != wasThere[k]) {
                    return false;
                }
            }
            return true;
        }
    }

    /** SURE: of the sets of starts that can be left behind each day, whether none is left, and how that began. */
    private static final class Search {
        int days = 0;
        int firstPlace = NONE;
        private final int[][] path = new int[MOST_PLACES][LAST_SEARCH_DAY + 1];
        // Of each place the starts (bits) that are there on the day.
        private final int[] met = new int[MOST_PLACES];
        // Of each set of starts (bits) the lowest first look by which just these can be left, or NONE.
        private final int[] opening = new int[1 << MOST_PLACES];

        void run(Town town, int kind, int starts) {
            days = 0;
            firstPlace = NONE;
            if (starts <= 0 || starts >= opening.length) {
                return;
            }
            for (int p = 0; p < town.places; p++) {
                town.walk(p, kind, path[p]);
            }
            Arrays.fill(opening, NONE);
            opening[starts] = 0;
            for (int day = 1; day <= LAST_SEARCH_DAY; day++) {
                lookOnce(town, day, starts);
                if (opening[0] != NONE) {
                    days = day;
                    firstPlace = opening[0];
                    return;
                }
            }
            days = NONE;
        }

        private void lookOnce(Town town, int day, int starts) {
            Arrays.fill(met, 0);
            for (int p = 0; p < town.places; p++) {
                met[path[p][day]] |= 1 << p;
            }
            // A look leaves a part of a set, which is no higher a number: in rising order
            // each set of yesterday is read before one of today comes in its stead.
            for (int left = 0; left <= starts; left++) {
                int first = opening[left];
                opening[left] = NONE;
                for (int p = 0; p < town.places && first != NONE; p++) {
                    leave(left & ~met[p], day == 1 ? p : first);
                }
            }
        }

        private void leave(int left, int first) {
            if (opening[left] == NONE || first < opening[left]) {
                opening[left] = first;
            }
        }
    }

    /** What can be UNDONE, the latest last. */
    private static final class Changes {
        static final int A_LOOK = -1;
        int held = 0;
        // The skin that was hidden elsewhere, or A_LOOK, and where the skin was.
        private final int[] skinHidden = new int[MOST_UNDONE];
        private final int[] former = new int[MOST_UNDONE];

        void note(int i, int p) {
            if (held >= MOST_UNDONE) {
                System.arraycopy(skinHidden, 1, skinHidden, 0, MOST_UNDONE - 1);
                System.arraycopy(former, 1, former, 0, MOST_UNDONE - 1);
                held = MOST_UNDONE - 1;
            }
            skinHidden[held] = i;
            former[held] = p;
            held++;
        }

        boolean takeBack(Hiding hiding) {
            if (held < 1) {
                return false;
            }
            held--;
            int i = skinHidden[held];
            if (i != A_LOOK) {
                hiding.start[i] = former[held];
            } else if (hiding.looks > 0) {
                hiding.looks--;
            }
            return true;
        }
    }

    /** What is KEPT, the latest last. */
    private static final class Shelf {
        int held = 0;
        // As many as can be KEPT.
        private final Hiding[] rows = {new Hiding(), new Hiding()};

        boolean put(Hiding hiding) {
            if (held >= rows.length) {
                return false;
            }
            rows[held].copyOf(hiding);
            held++;
            return true;
        }

        boolean takeLast(Hiding into) {
            if (held < 1) {
                return false;
            }
            held--;
            into.copyOf(rows[held]);
            return true;
        }
    }
}
