/**
 * The edges that the document's part 2 and promises 8 to 12 name. Each sentence has a test of its own: the last value
 * inside, the first one outside, and, where a call is refused, that nothing is another then.
 */
final class DaysEdgesTest {
    private static final Due due = new Due("DaysEdgesTest");
    private static final int BAD = Due.BAD, NONE = Due.NONE;
    private static final int MIN = Integer.MIN_VALUE, MAX = Integer.MAX_VALUE;
    /** By each T the first high TIDE on day 60 or behind it. */
    private static final int[] TIDE_FROM_60 = {0, 60, 60, 60, 60, 60, 60, 63, 64, 63, 60, 66, 60, 65, 70, 60, 64, 68, 72, 76, 60};

    public static void main(String[] args) {
        fromDayOneOn();
        smokePartsTheDay();
        smokeNever();
        oneAtLeast();
        oneAtLeastFits();
        hasFoundNoneSoFar();
        nobodyHasFound();
        theLowestThatFits();
        asTold();
        stay();
        nextFromTheLastToFirst();
        froToTheLastAndBack();
        froOfTheOnlyPlace();
        homeFromTheLastToFirst();
        homeToTheLowestOfTheHouse();
        noMoreThanTwoAway();
        whatHerOwnWasAtFirst();
        tideOnThatDayOrBehind();
        where();
        whereBehindTheFind();
        size();
        sizeBehindTheFind();
        woman();
        womanNone();
        womanToDay60();
        fits();
        fitsIfNoneHadBeenFound();
        gone();
        goneBehindTheDay();
        due.end();
    }

    private static void at(Run x, int i, int t, int want) {
        due.is("where(" + i + ", " + t + ")", x.where(i, t), want);
    }

    private static void sized(Run x, int i, int t, int want) {
        due.is("size(" + i + ", " + t + ")", x.size(i, t), want);
    }

    private static void woman(String name, Run x, int i, int skin, int day, int leaves) {
        due.are(name, new int[] {x.woman(i, 0), x.woman(i, 1), x.woman(i, 2)}, skin, day, leaves);
    }

    // "On each day, from day 1 on": on day 1 there is smoke, a look and a tide, but no night has been.
    private static void fromDayOneOn() {
        Run x = Towns.laid("p0,5;p0,5;p0,5;s2,9,0;s2,9,1;s2,9,2;s2,9,3;w1;");
        for (int i = 0; i < 4; i++) {
            at(x, i, 1, 2);
            sized(x, i, 1, 8);
        }
        woman("a look on day 1", Towns.laid("p0,5;p0,5;s1,9,1;l0,1,1;"), 0, 0, 1, 1);
        woman("a look on day 1, where it is on day 2", Towns.laid("p0,5;p0,5;s1,9,1;l0,0,1;"), 0, NONE, NONE, NONE);
        woman("a look on day 2", Towns.laid("p0,5;p0,5;s1,9,1;l0,0,2;"), 0, 0, 2, 2);
    }

    // "If W parts the day (W above 0), each SKIN that is not gone is smaller by 1"
    private static void smokePartsTheDay() {
        for (int w = 1; w <= 60; w++) {
            Run x = Towns.laid("p0,5;s0,20,0;w" + w + ";");
            if (w > 1) {
                sized(x, 0, w - 1, 20);
            }
            sized(x, 0, w, 19);
            if (w > 1 && 2 * w <= 60) {
                sized(x, 0, 2 * w - 1, 19);
            }
            if (2 * w <= 60) {
                sized(x, 0, 2 * w, 18);
            }
        }
        sized(Towns.laid("p0,5;s0,20,0;w6;"), 0, 59, 11);
        sized(Towns.laid("p0,5;s0,20,0;w6;"), 0, 60, 10);
    }

    // "(0 to 60; 0 without: never; the last one)"
    private static void smokeNever() {
        for (String smoke : new String[] {"", "w0;", "w1;w0;"}) {
            Run x = Towns.laid("p0,5;s0,20,0;s0,1,0;" + smoke);
            for (int t : new int[] {1, 2, 59, 60}) {
                sized(x, 0, t, 20);
                sized(x, 1, t, 1);
            }
        }
    }

    // "smaller by 1, 1 at least"
    private static void oneAtLeast() {
        Run x = Towns.laid("p0,5;s0,20,0;s0,2,0;s0,1,0;w1;");
        due.are("20 by w1", Towns.sizes(x, 0, 17, 18, 19, 20, 21, 60), 3, 2, 1, 1, 1, 1);
        due.are("2 by w1", Towns.sizes(x, 1, 1, 2, 3, 60), 1, 1, 1, 1);
        due.are("1 by w1", Towns.sizes(x, 2, 1, 2, 60), 1, 1, 1);
        Run y = Towns.laid("p0,5;s0,20,0;s0,3,0;s0,1,0;w3;");
        due.are("20 by w3", Towns.sizes(y, 0, 53, 54, 56, 57, 59, 60), 3, 2, 2, 1, 1, 1);
        due.are("3 by w3", Towns.sizes(y, 1, 2, 3, 5, 6, 8, 9), 3, 2, 2, 1, 1, 1);
        Run z = Towns.laid("p0,5;s0,3,0;s0,2,0;s0,1,0;w20;");
        due.are("3 by w20", Towns.sizes(z, 0, 19, 20, 39, 40, 59, 60), 3, 2, 2, 1, 1, 1);
        due.are("2 by w60", Towns.sizes(Towns.laid("p0,5;s0,2,0;w60;"), 0, 59, 60), 2, 1);
        due.are("1 by w60", Towns.sizes(Towns.laid("p0,5;s0,1,0;w60;"), 0, 59, 60), 1, 1);
    }

    // 1 is 2 away from 3, what 0 would not be; and 3 away from 4.
    private static void oneAtLeastFits() {
        Run x = Towns.laid("p0,5;s0,3,0;s0,4,0;s0,1,0;w1;");
        due.are("fits on day 60", new int[] {x.fits(0, 60), x.fits(1, 60), x.fits(2, 60)}, 0b111, 0, 0b111);
        woman("3 finds 1", Towns.laid("p0,5;s0,3,0;w1;l0,0,60;"), 0, 0, 60, 60);
        woman("4 finds no 1", Towns.laid("p0,5;s0,4,0;w1;l0,0,60;"), 0, NONE, NONE, NONE);
    }

    // "if the WOMAN has found none so far"
    private static void hasFoundNoneSoFar() {
        String town = "p0,5;p0,5;s0,9,0;s0,9,0;s1,9,0;";
        Run x = Towns.laid(town + "l0,0,1;l0,0,1;l0,0,2;l0,1,60;");
        woman("the first look", x, 0, 0, 1, 1);
        due.are("no more than one", new int[] {x.skin(0, 3), x.skin(1, 3), x.skin(2, 3)}, 0, NONE, NONE);
        woman("looks that found none are no find", Towns.laid(town + "l0,0,5;l0,1,4;l2,1,3;"), 0, 0, 5, 5);
    }

    // "of the SKINS at that PLACE that nobody has found"
    private static void nobodyHasFound() {
        Run x = Towns.laid("p0,5;s0,9,0;s0,9,0;l0,0,1;l1,0,1;");
        woman("the first of the day", x, 0, 0, 1, 1);
        woman("the second finds the next", x, 1, 1, 1, 1);
        Run y = Towns.laid("p0,5;p0,5;s0,9,0;s1,9,0;l0,0,1;l1,0,1;l1,0,2;l1,0,60;");
        woman("where none is left", y, 1, NONE, NONE, NONE);
        Run z = Towns.laid("p0,5;" + "s0,9,0;".repeat(5) + "l4,0,1;l3,0,1;l2,0,1;l1,0,1;l0,0,1;");
        due.are("five find five", new int[] {z.woman(4, 0), z.woman(3, 0), z.woman(2, 0), z.woman(1, 0), z.woman(0, 0)}, 0, 1, 2, 3, 4);
        // A found one is found, if its finder has gone or waits for the tide.
        woman("the finder waits", Towns.laid("p0,5;s0,9,0;s0,1,0;s0,9,0;l2,0,1;l0,0,2;t20;"), 0, 2, 2, 20);
    }

    // "the lowest that FITS her is hers"
    private static void theLowestThatFits() {
        woman("the lowest of five", Towns.laid("p0,5;" + "s0,9,0;".repeat(5) + "l4,0,1;"), 4, 0, 1, 1);
        woman("the lowest that fits", Towns.laid("p0,5;s0,6,0;s0,12,0;s0,11,0;s0,9,0;l3,0,1;"), 3, 2, 1, 1);
        woman("the last of five alone fits", Towns.laid("p0,5;" + "s0,6,0;".repeat(4) + "s0,9,0;l4,0,1;"), 4, 4, 1, 1);
        woman("the lowest at that place", Towns.laid("p0,5;p0,5;s0,9,0;s1,9,0;s1,9,0;l2,1,1;"), 2, 1, 1, 1);
        woman("none that fits is there", Towns.laid("p0,5;p0,5;s0,9,0;s1,6,0;l0,1,1;"), 0, NONE, NONE, NONE);
    }

    // "For each look of the day, as told"
    private static void asTold() {
        Run x = Towns.laid("p0,5;s0,9,0;s0,9,0;l1,0,60;l0,0,60;");
        due.are("on the last day", new int[] {x.woman(0, 0), x.woman(1, 0)}, 1, 0);
        Run y = Towns.laid("p0,5;s0,9,0;s0,9,0;l1,0,60;l0,0,59;");
        due.are("the day counts first", new int[] {y.woman(0, 0), y.woman(1, 0)}, 0, 1);
        Run z = Towns.laid("p0,5;s0,9,0;s0,9,0;" + "l1,0,2;".repeat(7) + "l0,0,1;");
        z.look(1, 0, 1);
        due.are("a look told behind all", new int[] {z.woman(0, 0), z.woman(1, 0), z.woman(1, 1)}, 0, 1, 1);
    }

    // "by STAY never"
    private static void stay() {
        for (int n = 1; n <= 9; n++) {
            Run x = Towns.laid("p0,5;".repeat(n) + "s0,9,0;s" + (n - 1) + ",9,0;");
            for (int t : new int[] {1, 2, 9, 59, 60}) {
                at(x, 0, t, 0);
                at(x, 1, t, n - 1);
            }
        }
    }

    // "by NEXT to the next PLACE (from the last one to 0)"
    private static void nextFromTheLastToFirst() {
        for (int n = 1; n <= 9; n++) {
            Run x = Towns.laid("p0,5;".repeat(n) + "s0,9,1;s" + (n - 1) + ",9,1;");
            for (int t = 1; t <= 60; t++) {
                at(x, 0, t, (t - 1) % n);
                at(x, 1, t, (t + n - 2) % n);
            }
            at(x, 1, 1, n - 1);
            at(x, 1, 2, 0);
            at(x, 0, n, n - 1);
            at(x, 0, n + 1, 0);
        }
    }

    // "by FRO as by NEXT to the last PLACE, then down to 0, then up, and so on"
    private static void froToTheLastAndBack() {
        for (int n = 2; n <= 9; n++) {
            Run x = Towns.laid("p0,5;".repeat(n) + "s0,9,2;s" + (n - 1) + ",9,2;s" + (n - 2) + ",9,2;");
            int last = n - 1;
            at(x, 0, last, last - 1);
            at(x, 0, last + 1, last);
            at(x, 0, last + 2, last - 1);
            at(x, 0, 2 * last, 1);
            at(x, 0, 2 * last + 1, 0);
            at(x, 0, 2 * last + 2, 1);
            at(x, 0, 3 * last + 1, last);
            at(x, 0, 3 * last + 2, last - 1);
            at(x, 1, 1, last);
            at(x, 1, 2, last - 1);
            at(x, 1, last + 1, 0);
            at(x, 1, last + 2, 1);
            at(x, 1, 2 * last + 1, last);
            at(x, 1, 2 * last + 2, last - 1);
            at(x, 2, 1, last - 1);
            at(x, 2, 2, last);
            at(x, 2, 3, last - 1);
        }
    }

    // "(the only PLACE: never)"
    private static void froOfTheOnlyPlace() {
        Run x = Towns.laid("p0,5;s0,9,2;s0,9,1;s0,9,3;");
        for (int t = 1; t <= 60; t++) {
            at(x, 0, t, 0);
            at(x, 1, t, 0);
            at(x, 2, t, 0);
        }
    }

    // "by HOME .. else to the next PLACE (from the last one to 0)"
    private static void homeFromTheLastToFirst() {
        for (int n = 1; n <= 6; n++) {
            StringBuilder places = new StringBuilder();
            for (int h = n - 1; h >= 0; h--) {
                places.append('p').append(h).append(",5;");
            }
            Run x = Towns.laid(places + "s0,9,3;s" + (n - 1) + ",9,3;");
            at(x, 1, 1, n - 1);
            at(x, 1, 2, 0);
            at(x, 0, n, n - 1);
            at(x, 0, n + 1, 0);
        }
        due.are("the last is the lowest of its house", Towns.course(Towns.laid("p0,5;p0,5;p1,5;s2,9,3;"), 0, 4), 2, 0, 1, 0);
        due.are("the last is not the lowest of its house", Towns.course(Towns.laid("p0,5;p1,5;p1,5;s2,9,3;"), 0, 4), 2, 1, 2, 1);
    }

    // "to the lowest PLACE of the HOUSE in which it is then, if it is at another one of that"
    private static void homeToTheLowestOfTheHouse() {
        for (int n = 2; n <= 9; n++) {
            Run x = Towns.laid("p0,5;".repeat(n) + "s0,9,3;s" + (n - 1) + ",9,3;");
            due.are("from the lowest of " + n, Towns.course(x, 0, 4), 0, 1, 0, 1);
            due.are("from the last of " + n, Towns.course(x, 1, 4), n - 1, 0, 1, 0);
        }
        // Places 1, 4 and 8 are of one house: its lowest is 1, from which it goes to 2, of another house.
        Run x = Towns.laid("p0,5;p5,5;p2,5;p3,5;p5,5;p1,5;p4,5;p0,5;p5,5;s8,9,3;s4,9,3;s7,9,3;s5,9,3;");
        due.are("from the last of the house", Towns.course(x, 0, 6), 8, 1, 2, 3, 4, 1);
        due.are("from the middle of the house", Towns.course(x, 1, 4), 4, 1, 2, 3);
        due.are("to place 0 past others", Towns.course(x, 2, 4), 7, 0, 1, 2);
        due.are("from house to house", Towns.course(x, 3, 4), 5, 6, 7, 0);
    }

    // "A SKIN FITS a WOMAN, if its size is no more than 2 away"
    private static void noMoreThanTwoAway() {
        int[][] pairs = {{10, 12, 13, 8, 7}, {3, 5, 6, 1, 0}, {18, 20, 21, 16, 15}, {1, 3, 4, 1, 0}, {20, 20, 21, 18, 17}};
        for (int[] pair : pairs) {
            fitsAndFinds(pair[0], pair[1], true);
            fitsAndFinds(pair[0], pair[2], false);
            fitsAndFinds(pair[0], pair[3], true);
            fitsAndFinds(pair[0], pair[4], false);
        }
    }

    /** Whether a woman whose own skin has one size finds one that has another. */
    private static void fitsAndFinds(int own, int other, boolean so) {
        if (other < 1 || other > 20) {
            return;
        }
        Run x = Towns.laid("p0,5;p0,5;s0," + own + ",0;s1," + other + ",0;l0,1,1;");
        String name = "own " + own + ", other " + other;
        due.is(name + ", fits", x.fits(0, 1), so ? 3 : 1);
        due.is(name + ", fits the other woman", x.fits(1, 1), so ? 3 : 2);
        woman(name, x, 0, so ? 1 : NONE, so ? 1 : NONE, so ? 1 : NONE);
    }

    // ".. away from what her own one was at first": that one's growing smaller is nothing to her.
    private static void whatHerOwnWasAtFirst() {
        Run x = Towns.laid("p0,5;s0,10,0;s0,13,0;w1;");
        due.are("fits woman 0", new int[] {x.fits(0, 1), x.fits(0, 2), x.fits(0, 3), x.fits(0, 5), x.fits(0, 6)}, 3, 3, 2, 2, 0);
        due.are("fits woman 1", new int[] {x.fits(1, 1), x.fits(1, 2), x.fits(1, 3)}, 2, 2, 0);
        woman("her own, smaller by 2", Towns.laid("p0,5;s0,10,0;w1;l0,0,2;"), 0, 0, 2, 2);
        woman("her own, smaller by 3", Towns.laid("p0,5;s0,10,0;w1;l0,0,3;"), 0, NONE, NONE, NONE);
        String larger = "p0,5;p0,5;s0,10,0;s1,14,0;w2;l0,1,";
        woman("13 does not fit 10", Towns.laid(larger + "3;"), 0, NONE, NONE, NONE);
        woman("12 fits 10", Towns.laid(larger + "4;"), 0, 1, 4, 4);
        woman("8 fits 10", Towns.laid(larger + "13;"), 0, 1, 13, 13);
        woman("7 does not fit 10", Towns.laid(larger + "14;"), 0, NONE, NONE, NONE);
    }

    // "goes with the first high TIDE on that day or behind it (T parts the day)"
    private static void tideOnThatDayOrBehind() {
        for (int t = 1; t <= 20; t++) {
            String town = "p0,5;s0,9,0;t" + t + ";l0,0,";
            woman("on the first day, t" + t, Towns.laid(town + "1;"), 0, 0, 1, t);
            woman("on a day of tide, t" + t, Towns.laid(town + t + ";"), 0, 0, t, t);
            woman("the day behind a tide, t" + t, Towns.laid(town + (t + 1) + ";"), 0, 0, t + 1, 2 * t);
            woman("on the second tide, t" + t, Towns.laid(town + (2 * t) + ";"), 0, 0, 2 * t, 2 * t);
            woman("on the last day, t" + t, Towns.laid(town + "60;"), 0, 0, 60, TIDE_FROM_60[t]);
            if (t > 1) {
                woman("the day ahead of a tide, t" + t, Towns.laid(town + (t - 1) + ";"), 0, 0, t - 1, t);
                woman("the day ahead of the second tide, t" + t, Towns.laid(town + (2 * t - 1) + ";"), 0, 0, 2 * t - 1, 2 * t);
            }
        }
    }

    /** Towns of one, two and five skins, of which the last is found on day 30. */
    private static Run ofSkins(int n) {
        return Towns.laid("p0,5;p0,5;" + "s0,9,0;".repeat(n - 1) + "s1,20,0;l" + (n - 1) + ",1,30;w20;");
    }

    // where: "on day t (1 to 60)"; BAD, ahead of NONE
    private static void where() {
        for (int n : new int[] {1, 2, 5}) {
            Run x = ofSkins(n);
            at(x, n - 1, 1, 1);
            at(x, 0, 60, n == 1 ? NONE : 0);
            for (int i : new int[] {-1, n, n + 1, MIN, MAX}) {
                due.refused("where(" + i + ", 1) of " + n, x, y -> y.where(i, 1), BAD);
                due.refused("where(" + i + ", 60) of " + n, x, y -> y.where(i, 60), BAD);
            }
            for (int t : new int[] {-1, 0, 61, 62, MIN, MAX}) {
                due.refused("where(0, " + t + ")", x, y -> y.where(0, t), BAD);
                due.refused("where(" + (n - 1) + ", " + t + "), found", x, y -> y.where(n - 1, t), BAD);
            }
        }
    }

    // where: "NONE: it was FOUND on an earlier day"
    private static void whereBehindTheFind() {
        for (int day : new int[] {1, 2, 30, 58, 59, 60}) {
            Run x = Towns.laid("p0,5;p0,5;s0,9,0;s1,9,0;t20;l0,0," + day + ";");
            at(x, 0, 1, 0);
            at(x, 0, day, 0);
            if (day < 60) {
                at(x, 0, day + 1, NONE);
                at(x, 0, 60, NONE);
            }
            at(x, 1, 60, 1);
        }
    }

    // size: "on day t when one looks"; BAD, ahead of NONE
    private static void size() {
        for (int n : new int[] {1, 2, 5}) {
            Run x = ofSkins(n);
            sized(x, n - 1, 1, 20);
            sized(x, 0, 60, n == 1 ? NONE : 6);
            for (int i : new int[] {-1, n, n + 1, MIN, MAX}) {
                due.refused("size(" + i + ", 1) of " + n, x, y -> y.size(i, 1), BAD);
                due.refused("size(" + i + ", 60) of " + n, x, y -> y.size(i, 60), BAD);
            }
            for (int t : new int[] {-1, 0, 61, 62, MIN, MAX}) {
                due.refused("size(0, " + t + ")", x, y -> y.size(0, t), BAD);
                due.refused("size(" + (n - 1) + ", " + t + "), found", x, y -> y.size(n - 1, t), BAD);
            }
        }
    }

    // size: "NONE: it was FOUND on an earlier day"
    private static void sizeBehindTheFind() {
        for (int day : new int[] {1, 2, 30, 58, 59, 60}) {
            Run x = Towns.laid("p0,5;p0,5;s0,9,0;s1,9,0;t20;w60;l0,0," + day + ";");
            sized(x, 0, 1, 9);
            sized(x, 0, day, day == 60 ? 8 : 9);
            if (day < 60) {
                sized(x, 0, day + 1, NONE);
                sized(x, 0, 60, NONE);
            }
            sized(x, 1, 60, 8);
        }
    }

    // woman: "the SKIN she FOUND to day 60 (what = 0; NONE), the day (1; NONE), the day on which she goes (2; NONE). BAD."
    private static void woman() {
        for (int n : new int[] {1, 2, 5}) {
            Run x = ofSkins(n);
            woman("the last woman", x, n - 1, n - 1, 30, 30);
            for (int i : new int[] {-1, n, n + 1, MIN, MAX}) {
                for (int k = 0; k <= 2; k++) {
                    int what = k;
                    due.refused("woman(" + i + ", " + what + ") of " + n, x, y -> y.woman(i, what), BAD);
                }
            }
            for (int what : new int[] {-1, 3, 4, MIN, MAX}) {
                due.refused("woman(0, " + what + ")", x, y -> y.woman(0, what), BAD);
                due.refused("woman(" + (n - 1) + ", " + what + ")", x, y -> y.woman(n - 1, what), BAD);
            }
        }
    }

    // woman: NONE, if she has found none
    private static void womanNone() {
        Run x = Towns.laid("p0,5;p0,5;s0,9,0;s0,9,0;s0,9,0;l1,1,1;l2,0,1;t20;");
        woman("she never looks", x, 0, NONE, NONE, NONE);
        woman("she looks where none is", x, 1, NONE, NONE, NONE);
        woman("she finds skin 0", x, 2, 0, 1, 20);
        x.undo();
        due.are("what nobody looked for", new int[] {x.skin(0, 3), x.skin(1, 3), x.skin(2, 3)}, 2, NONE, NONE);
    }

    // woman: "to day 60"; the day on which she goes can be a later one
    private static void womanToDay60() {
        woman("found on day 60, gone on 76", Towns.laid("p0,5;s0,9,0;l0,0,60;t19;"), 0, 0, 60, 76);
        // From 4 by NEXT of nine it is at 8 on day 59, at 0 on day 60: (4 + 59) modulo 9.
        String nine = "p0,5;".repeat(9) + "s4,9,1;";
        woman("it comes there on day 60", Towns.laid(nine + "l0,0,60;"), 0, 0, 60, 60);
        woman("it is not there on day 59", Towns.laid(nine + "l0,0,59;"), 0, NONE, NONE, NONE);
        woman("it is there on day 59", Towns.laid(nine + "l0,8,59;"), 0, 0, 59, 59);
        woman("it has gone from there by day 60", Towns.laid(nine + "l0,8,60;"), 0, NONE, NONE, NONE);
    }

    // fits: "on day t"; BAD
    private static void fits() {
        for (int n : new int[] {1, 2, 5}) {
            Run x = ofSkins(n);
            due.are("the last woman", new int[] {x.fits(n - 1, 1), x.fits(n - 1, 60)}, 1 << (n - 1), 0);
            due.is("the first woman", x.fits(0, 1), n == 1 ? 1 : (1 << (n - 1)) - 1);
            for (int i : new int[] {-1, n, n + 1, MIN, MAX}) {
                due.refused("fits(" + i + ", 1) of " + n, x, y -> y.fits(i, 1), BAD);
                due.refused("fits(" + i + ", 60) of " + n, x, y -> y.fits(i, 60), BAD);
            }
            for (int t : new int[] {-1, 0, 61, 62, MIN, MAX}) {
                due.refused("fits(0, " + t + ")", x, y -> y.fits(0, t), BAD);
                due.refused("fits(" + (n - 1) + ", " + t + ")", x, y -> y.fits(n - 1, t), BAD);
            }
        }
    }

    // fits: "The SKINS (bits) .. if none had been FOUND"; none is 0
    private static void fitsIfNoneHadBeenFound() {
        Run x = Towns.laid("p0,5;" + "s0,9,0;".repeat(5) + "l0,0,1;l1,0,1;l2,0,1;l3,0,1;l4,0,1;");
        due.are("all of five", new int[] {x.fits(0, 1), x.fits(0, 2), x.fits(4, 60)}, 31, 31, 31);
        Run y = Towns.laid("p0,5;s0,4,0;s0,20,0;w1;l0,0,1;");
        due.are("none", new int[] {y.fits(0, 3), y.fits(0, 14), y.fits(0, 60)}, 0, 2, 0);
    }

    // gone: "day t (1 to 80). BAD."
    private static void gone() {
        Run x = Towns.laid("p0,5;s0,9,0;l0,0,1;");
        due.is("gone(1)", x.gone(1), 1);
        due.is("gone(80)", x.gone(80), 1);
        due.is("gone(61)", x.gone(61), 1);
        Run idle = Towns.laid("p0,5;s0,9,0;");
        due.are("nobody", new int[] {idle.gone(1), idle.gone(60), idle.gone(80)}, 0, 0, 0);
        for (int t : new int[] {-1, 0, 81, 82, MIN, MAX}) {
            due.refused("gone(" + t + ")", x, y -> y.gone(t), BAD);
            due.refused("gone(" + t + ") of nobody", idle, y -> y.gone(t), BAD);
        }
    }

    // gone: "How many WOMEN have gone behind day t"
    private static void goneBehindTheDay() {
        for (int t = 1; t <= 20; t++) {
            int leaves = TIDE_FROM_60[t];
            Run x = Towns.laid("p0,5;s0,9,0;t" + t + ";l0,0,60;");
            due.are("gone, t" + t, new int[] {x.gone(59), x.gone(leaves - 1), x.gone(leaves), x.gone(80)}, 0, 0, 1, 1);
        }
        Run all = Towns.laid("p0,5;" + "s0,9,0;".repeat(5) + "l0,0,1;l1,0,2;l2,0,2;l3,0,59;l4,0,60;");
        due.are("five", new int[] {all.gone(1), all.gone(2), all.gone(58), all.gone(59), all.gone(60), all.gone(80)}, 1, 3, 3, 4, 5, 5);
    }
}
