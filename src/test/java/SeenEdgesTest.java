/**
 * The edges that the document names for SEEN, STARTS, LAWS and SURE, and promises 17 to 21. Each sentence has a test of
 * its own: the last value inside, the first one outside, and, where a call is refused, that nothing is another then.
 */
final class SeenEdgesTest {
    private static final Due due = new Due("SeenEdgesTest");
    private static final int BAD = Due.BAD, FULL = Due.FULL, NONE = Due.NONE;
    private static final int MIN = Integer.MIN_VALUE, MAX = Integer.MAX_VALUE;
    private static final String NINE = "p0,5;".repeat(9);

    public static void main(String[] args) {
        eightSeen();
        seenFullBehindBad();
        seenSkinAndPlace();
        seenDay();
        seenOnDay1And60();
        seenWasNot();
        seenThoughFound();
        forget();
        startsAsBits();
        starts();
        startsByItsLaw();
        lawsAsBits();
        laws();
        lawsFromWhereItIs();
        lawsOfTheOnlyPlace();
        sureOfHowMany();
        sureFromDayOneOn();
        sureOfNoStart();
        sureOfSeveralTheLowest();
        sureThoughAnotherFindsIt();
        sure();
        due.end();
    }

    /** So many skins in nine places, the last of which is moved by HOME. */
    private static Run ofSkins(int n) {
        return Towns.laid(NINE + "s0,9,0;".repeat(n - 1) + "s8,19,3;");
    }

    // "SEEN (8 at most)"; seen: "how many", FULL
    private static void eightSeen() {
        Run x = ofSkins(5);
        for (int k = 1; k <= 8; k++) {
            due.is("seen", x.seen(k % 5, k, k, false), k);
            due.is("count", x.count(3), k);
        }
        due.is("the eighth counts", x.starts(3), 0x1FF - (1 << 3) - (1 << 8));
        due.refused("the ninth", x, y -> y.seen(3, 0, 1, true), FULL);
        due.refused("the ninth, seen already", x, y -> y.seen(1, 1, 1, false), FULL);
        Run same = ofSkins(1);
        for (int k = 1; k <= 8; k++) {
            due.is("the same again", same.seen(0, 8, 1, true), k);
        }
        due.refused("the same a ninth time", same, y -> y.seen(0, 8, 1, true), FULL);
        due.are("room anew", new int[] {same.forget(), same.seen(0, 0, 1, true), same.starts(0)}, 8, 1, 1);
    }

    private static void seenFullBehindBad() {
        Run x = ofSkins(2);
        for (int k = 1; k <= 8; k++) {
            x.seen(0, k, 1, false);
        }
        due.refused("BAD skin", x, y -> y.seen(2, 0, 1, true), BAD);
        due.refused("BAD place", x, y -> y.seen(0, 9, 1, true), BAD);
        due.refused("BAD day 0", x, y -> y.seen(0, 0, 0, true), BAD);
        due.refused("BAD day 61", x, y -> y.seen(0, 0, 61, true), BAD);
        due.refused("FULL", x, y -> y.seen(0, 0, 60, true), FULL);
    }

    // "that SKIN i was at PLACE p": such as there are
    private static void seenSkinAndPlace() {
        for (int n : new int[] {1, 2, 5}) {
            Run x = ofSkins(n);
            for (int i : new int[] {-1, n, n + 1, MIN, MAX}) {
                due.refused("seen(" + i + ", 0, 1, true) of " + n, x, y -> y.seen(i, 0, 1, true), BAD);
                due.refused("seen(" + i + ", 0, 1, false) of " + n, x, y -> y.seen(i, 0, 1, false), BAD);
            }
            due.is("the last skin", x.seen(n - 1, 8, 1, true), 1);
            due.is("its starts", x.starts(n - 1), 1 << 8);
        }
        for (int n = 1; n <= 9; n++) {
            int places = n;
            Run x = Towns.laid("p0,5;".repeat(n) + "s0,9,0;");
            for (int p : new int[] {-1, n, n + 1, MIN, MAX}) {
                due.refused("seen(0, " + p + ", 1, true) of " + n, x, y -> y.seen(0, p, 1, true), BAD);
            }
            due.refused("seen(0, n, 1, false) of " + n, x, y -> y.seen(0, places, 1, false), BAD);
            due.is("at the last place", x.seen(0, n - 1, 1, true), 1);
            due.is("start at the last place", x.starts(0), 1 << (n - 1));
        }
    }

    // "on day t (1 to 60, when one looks"
    private static void seenDay() {
        for (int t : new int[] {1, 2, 59, 60}) {
            due.is("seen on " + t, ofSkins(1).seen(0, 0, t, true), 1);
            due.is("not seen on " + t, ofSkins(1).seen(0, 0, t, false), 1);
        }
        for (int t : new int[] {-1, 0, 61, 62, MIN, MAX}) {
            due.refused("seen on " + t, ofSkins(1), y -> y.seen(0, 0, t, true), BAD);
            due.refused("not seen on " + t, ofSkins(1), y -> y.seen(0, 0, t, false), BAD);
        }
    }

    // When one looks: ahead of the first night on day 1, behind 59 nights on day 60.
    private static void seenOnDay1And60() {
        Run x = Towns.laid(NINE + "s0,9,1;");
        x.seen(0, 4, 1, true);
        due.is("at 4 on day 1", x.starts(0), 1 << 4);
        x.forget();
        // 59 nights are 5 more than 6 times nine: it comes from (4 - 5) modulo 9.
        x.seen(0, 4, 60, true);
        due.is("at 4 on day 60", x.starts(0), 1 << 8);
        x.forget();
        x.seen(0, 4, 59, true);
        due.is("at 4 on day 59", x.starts(0), 1);
        x.forget();
        x.seen(0, 4, 2, true);
        due.is("at 4 on day 2", x.starts(0), 1 << 3);
    }

    // ".. or was not"
    private static void seenWasNot() {
        Run x = Towns.laid(NINE + "s0,9,1;");
        x.seen(0, 4, 1, false);
        due.is("not at 4 on day 1", x.starts(0), 0x1FF - (1 << 4));
        x.seen(0, 4, 60, false);
        due.is("not at 4 on day 60 either", x.starts(0), 0x1FF - (1 << 4) - (1 << 8));
        Run y = Towns.laid("p0,5;s0,9,1;");
        y.seen(0, 0, 60, true);
        due.are("where it must be", new int[] {y.starts(0), y.laws(0)}, 1, 15);
        y.seen(0, 0, 60, false);
        due.are("where it can not be", new int[] {y.starts(0), y.laws(0)}, 0, 0);
    }

    // "nobody having FOUND it"
    private static void seenThoughFound() {
        Run x = Towns.laid("p0,5;p0,5;p0,5;s0,9,1;l0,0,1;");
        due.is("it was found", x.where(0, 2), NONE);
        x.seen(0, 1, 2, true);
        due.are("as if it had not been", new int[] {x.starts(0), x.laws(0)}, 1, 0b1110);
        x.seen(0, 2, 60, true);
        due.are("to day 60", new int[] {x.starts(0), x.laws(0)}, 1, 0b0010);
    }

    // "Nothing is SEEN: how many were."
    private static void forget() {
        for (int n = 0; n <= 8; n++) {
            Run x = ofSkins(2);
            String before = x.whole();
            for (int k = 1; k <= n; k++) {
                x.seen(0, k, k, false);
            }
            due.is("forget", x.forget(), n);
            due.same("as before", x.whole(), before);
            due.refused("forget nothing", x, Run::forget, 0);
        }
    }

    // "the PLACES (bits) at which it can have been at first"
    private static void startsAsBits() {
        for (int n = 1; n <= 9; n++) {
            Run x = Towns.laid("p0,5;".repeat(n) + "s0,9,0;");
            due.is("all of " + n, x.starts(0), (1 << n) - 1);
            x.seen(0, n - 1, 60, false);
            due.is("all but the last of " + n, x.starts(0), (1 << (n - 1)) - 1);
            x.forget();
            x.seen(0, 0, 60, true);
            due.is("the first of " + n, x.starts(0), 1);
            x.seen(0, 0, 1, false);
            due.is("none of " + n, x.starts(0), 0);
        }
    }

    // starts: BAD
    private static void starts() {
        for (int n : new int[] {1, 2, 5}) {
            Run x = ofSkins(n);
            due.are("the first and the last", new int[] {x.starts(0), x.starts(n - 1)}, 511, 511);
            for (int i : new int[] {-1, n, n + 1, MIN, MAX}) {
                due.refused("starts(" + i + ") of " + n, x, y -> y.starts(i), BAD);
            }
        }
    }

    // "moved by its LAW, so that all SEEN of it is so": from the last place to 0, to the last place and back
    private static void startsByItsLaw() {
        Run x = Towns.laid("p0,5;p0,5;p0,5;s0,9,0;s0,9,1;s0,9,2;s0,9,3;");
        for (int i = 0; i < 4; i++) {
            x.seen(i, 0, 2, true);
        }
        due.are("at 0 on day 2", new int[] {x.starts(0), x.starts(1), x.starts(2), x.starts(3)}, 0b001, 0b100, 0, 0b110);
        for (int i = 0; i < 4; i++) {
            x.seen(i, 0, 3, true);
        }
        due.are("and on day 3", new int[] {x.starts(0), x.starts(1), x.starts(2), x.starts(3)}, 0b001, 0, 0, 0);
        x.forget();
        x.seen(2, 1, 2, true);
        due.is("FRO, at 1 on day 2", x.starts(2), 0b101);
        x.seen(2, 0, 3, true);
        due.is("FRO, and at 0 on day 3", x.starts(2), 0b100);
    }

    // "the KINDS (bits) by which it can be moved .. so that all SEEN of it is so"
    private static void lawsAsBits() {
        Run x = Towns.laid("p0,5;p0,5;p0,5;p0,5;s2,9,0;");
        due.is("all", x.laws(0), 0b1111);
        // From 2 of four in one house, on days 2, 3, 4: STAY 2 2 2, NEXT 3 0 1, FRO 3 2 1, HOME 0 1 0.
        int[][] seen = {{2, 2, 0b0001}, {3, 2, 0b0110}, {0, 2, 0b1000}, {2, 3, 0b0101}, {0, 3, 0b0010}, {1, 3, 0b1000}, {3, 3, 0},
            {1, 4, 0b0110}, {2, 4, 0b0001}, {0, 4, 0b1000}, {2, 1, 0b1111}, {0, 1, 0}};
        for (int[] one : seen) {
            x.forget();
            x.seen(0, one[0], one[1], true);
            due.is("was at " + one[0] + " on " + one[1], x.laws(0), one[2]);
            x.forget();
            x.seen(0, one[0], one[1], false);
            due.is("was not at " + one[0] + " on " + one[1], x.laws(0), 0b1111 - one[2]);
        }
    }

    // laws: BAD
    private static void laws() {
        for (int n : new int[] {1, 2, 5}) {
            Run x = ofSkins(n);
            due.are("the first and the last", new int[] {x.laws(0), x.laws(n - 1)}, 15, 15);
            for (int i : new int[] {-1, n, n + 1, MIN, MAX}) {
                due.refused("laws(" + i + ") of " + n, x, y -> y.laws(i), BAD);
            }
        }
    }

    // "from where it is at first": and not from where the text told, when it was hidden elsewhere
    private static void lawsFromWhereItIs() {
        Run x = Towns.laid("p0,5;p0,5;p0,5;s0,9,0;");
        x.seen(0, 0, 2, true);
        due.is("from 0", x.laws(0), 0b0001);
        x.hide(0, 2);
        due.is("from 2", x.laws(0), 0b1010);
        x.hide(0, 1);
        due.is("from 1", x.laws(0), 0b1000);
        due.is("starts are by its own law", x.starts(0), 0b001);
        due.is("undone", x.undo(), 1);
        due.is("from 2 again", x.laws(0), 0b1010);
    }

    private static void lawsOfTheOnlyPlace() {
        for (int kind = 0; kind <= 3; kind++) {
            Run x = Towns.laid("p0,5;s0,9," + kind + ";");
            for (int t : new int[] {1, 2, 3, 59, 60}) {
                x.seen(0, 0, t, true);
            }
            due.are("always there", new int[] {x.laws(0), x.starts(0), x.sure(0, 0), x.sure(0, 1)}, 15, 1, 1, 0);
        }
    }

    private static void sure(String name, Run x, int days, int first) {
        due.are(name, new int[] {x.sure(0, 0), x.sure(0, 1)}, days, first);
    }

    // "in how few days she is sure to have seen it .. how many (0 to 40)"; nine are the most that nine places need
    private static void sureOfHowMany() {
        for (int n = 1; n <= 9; n++) {
            Run stay = Towns.laid("p0,5;".repeat(n) + "s0,9,0;");
            sure("STAY of " + n, stay, n, 0);
            sure("NEXT of " + n, Towns.laid("p0,5;".repeat(n) + "s0,9,1;"), n, 0);
            sure("HOME of " + n + " in a house", Towns.laid("p0,5;".repeat(n) + "s0,9,3;"), Math.min(n, 2), 0);
            for (int p = 0; p < n - 1 && p < 8; p++) {
                stay.seen(0, p, 1, false);
                sure("STAY of " + n + ", not at " + p + " nor below", stay, n - 1 - p, p + 1);
            }
        }
    }

    // "looks at one PLACE each day, from day 1 on"
    private static void sureFromDayOneOn() {
        for (int kind = 0; kind <= 3; kind++) {
            Run x = Towns.laid("p0,5;p0,5;p0,5;s0,9," + kind + ";");
            x.seen(0, 2, 1, true);
            sure("one start, kind " + kind, x, 1, 2);
        }
        // From 0 or 2 by NEXT: at 0 or 2 on day 1, at 1 or 0 on day 2.
        Run x = Towns.laid("p0,5;p0,5;p0,5;s0,9,1;");
        x.seen(0, 1, 1, false);
        sure("two starts by NEXT", x, 2, 0);
        // From 1 or 2 by FRO: at 1 or 2 on day 1, at 2 or 1 on day 2; no look finds both.
        Run y = Towns.laid("p0,5;p0,5;p0,5;s0,9,2;");
        y.seen(0, 0, 1, false);
        sure("two starts by FRO", y, 2, 1);
    }

    // "(0: there are no STARTS"; "none (.. the PLACE, if there are no STARTS)"
    private static void sureOfNoStart() {
        for (int kind = 0; kind <= 3; kind++) {
            Run x = Towns.laid("p0,5;p0,5;s0,9," + kind + ";s0,9,0;");
            x.seen(0, 0, 1, false);
            sure("one start", x, 1, 1);
            x.seen(0, 1, 1, false);
            sure("no start", x, 0, NONE);
            due.are("of the other skin", new int[] {x.sure(1, 0), x.sure(1, 1)}, 2, 0);
            x.forget();
            due.is("starts again", x.sure(0, 1) == NONE ? 1 : 0, 0);
        }
    }

    // "the PLACE of the first look of several such ways the lowest"
    private static void sureOfSeveralTheLowest() {
        Run x = Towns.laid(NINE + "s0,9,0;");
        x.seen(0, 0, 1, false);
        x.seen(0, 4, 1, false);
        sure("the lowest of seven", x, 7, 1);
        // By HOME from 1, 2 or 3 of four in a house all are at 0 on day 2, whatever the first look is.
        Run home = Towns.laid("p0,5;p0,5;p0,5;p0,5;s0,9,3;");
        home.seen(0, 0, 1, false);
        sure("a first look where none can be", home, 2, 0);
        home.seen(0, 1, 1, false);
        sure("a first look at 0 or 1, where none can be", home, 2, 0);
        home.forget();
        home.seen(0, 0, 1, false);
        home.seen(0, 2, 1, false);
        sure("a first look at 0 or 2, where none can be", home, 2, 0);
        home.forget();
        home.seen(0, 1, 1, false);
        sure("at 0, where one can be, not at 1", home, 2, 0);
        home.forget();
        sure("from 0 too, which is then at 1", home, 2, 0);
        // From 0 or 2 of three by FRO it is at 1 on day 2, from 1 at 2: the first look must be at 1.
        sure("the only way", Towns.laid("p0,5;p0,5;p0,5;s0,9,2;"), 2, 1);
    }

    // "nobody else finds it"
    private static void sureThoughAnotherFindsIt() {
        Run x = Towns.laid("p0,5;p0,5;p0,5;s0,9,0;l0,0,1;l0,1,1;");
        due.is("she finds it", x.woman(0, 1), 1);
        sure("and it is there to be seen", x, 3, 0);
        x.hide(0, 2);
        x.look(0, 2, 1);
        sure("where it is hidden she does not know", x, 3, 0);
    }

    // sure: "in how many days (what = 0), where first (1). NONE; BAD." BAD is ahead of NONE.
    private static void sure() {
        for (int n : new int[] {1, 2, 5}) {
            Run x = ofSkins(n);
            due.are("the last skin", new int[] {x.sure(n - 1, 0), x.sure(n - 1, 1)}, 2, 0);
            for (int i : new int[] {-1, n, n + 1, MIN, MAX}) {
                due.refused("sure(" + i + ", 0) of " + n, x, y -> y.sure(i, 0), BAD);
                due.refused("sure(" + i + ", 1) of " + n, x, y -> y.sure(i, 1), BAD);
            }
            x.seen(0, 0, 1, true);
            x.seen(0, 0, 1, false);
            for (int what : new int[] {-1, 2, MIN, MAX}) {
                due.refused("sure(0, " + what + ")", x, y -> y.sure(0, what), BAD);
            }
            due.refused("sure(0, 1)", x, y -> y.sure(0, 1), NONE);
            due.refused("sure(0, 0)", x, y -> y.sure(0, 0), 0);
        }
    }
}
