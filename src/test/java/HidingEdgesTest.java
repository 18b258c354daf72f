/**
 * The edges that the document names for HIDE, for looks and for UNDONE, and promises 13 to 16. Each sentence has a test
 * of its own: the last value inside, the first one outside, and, where a call is refused, that nothing is another then.
 */
final class HidingEdgesTest {
    private static final Due due = new Due("HidingEdgesTest");
    private static final int BAD = Due.BAD, NO = Due.NO, FULL = Due.FULL, NONE = Due.NONE;
    private static final int MIN = Integer.MIN_VALUE, MAX = Integer.MAX_VALUE;
    private static final String NINE = "p0,5;".repeat(9);

    public static void main(String[] args) {
        bestIsTheLatest();
        bestIsNone();
        bestOfSeveralTheLowest();
        bestOfAllPlaces();
        best();
        hideWhereItWas();
        hide();
        look();
        lookToDay60();
        nineLooksInAll();
        fullOfLooks();
        undoHidings();
        undoLooks();
        undoAllOfOneCall();
        undoWhatBecameNoOther();
        undoTheLatestOfBoth();
        undoNothingElse();
        undoAndChangeAnew();
        due.end();
    }

    private static void best(String town, int i, int place, int day) {
        Run x = Towns.laid(town);
        due.are("best of " + town, new int[] {x.best(i, 0), x.best(i, 1)}, place, day);
    }

    // "so that its WOMAN FINDS one latest"
    private static void bestIsTheLatest() {
        best("p0,5;s0,9,0;l0,0,1;", 0, 0, 1);
        best("p0,5;s0,9,0;l0,0,60;", 0, 0, 60);
        best("p0,5;p0,5;s0,9,0;l0,0,59;l0,1,60;", 0, 1, 60);
        best("p0,5;p0,5;s0,9,0;l0,0,60;l0,1,59;", 0, 0, 60);
        best("p0,5;p0,5;s1,9,0;l0,0,2;l0,1,1;", 0, 0, 2);
        best("p0,5;p0,5;s1,9,0;l0,0,1;l0,1,2;", 0, 1, 2);
        // Wherever it is, she finds skin 1 on day 4 at the latest.
        best("p0,5;p0,5;s0,9,0;s1,9,0;l0,0,3;l0,1,4;", 0, 1, 4);
    }

    // "(best: none to day 60)"
    private static void bestIsNone() {
        best("p0,5;p0,5;s0,9,0;l0,0,60;", 0, 1, NONE);
        best("p0,5;p0,5;s0,9,0;l0,1,60;", 0, 0, NONE);
        best("p0,5;p0,5;s0,9,0;l0,0,1;l0,1,60;w20;", 0, 1, NONE);
        best("p0,5;p0,5;s0,9,0;l0,0,1;l0,1,60;w30;", 0, 1, 60);
        best("p0,5;s0,9,0;", 0, 0, NONE);
        // Skin 1 is taken on day 1 wherever it is: its woman finds none.
        best("p0,5;s0,9,0;s0,9,0;l0,0,1;", 1, 0, NONE);
    }

    // "of several the lowest"
    private static void bestOfSeveralTheLowest() {
        best("p0,5;p0,5;p0,5;s0,9,0;l0,0,59;l0,1,60;l0,2,60;", 0, 1, 60);
        best("p0,5;p0,5;p0,5;s2,9,0;l0,0,60;l0,1,60;l0,2,60;", 0, 0, 60);
        best("p0,5;p0,5;p0,5;s2,9,0;l0,0,1;l0,1,1;l0,2,1;", 0, 0, 1);
        best("p0,5;p0,5;p0,5;s0,9,0;l0,0,60;", 0, 1, NONE);
        best("p0,5;p0,5;p0,5;s2,9,0;l0,1,60;", 0, 0, NONE);
        best("p0,5;p0,5;p0,5;s2,9,0;", 0, 0, NONE);
    }

    private static void bestOfAllPlaces() {
        StringBuilder early = new StringBuilder(NINE + "s3,9,0;");
        for (int p = 0; p < 8; p++) {
            early.append("l0,").append(p).append(",59;");
        }
        best(early.toString(), 0, 8, NONE);
        best(early + "l0,8,60;", 0, 8, 60);
        best(early + "l0,8,59;", 0, 0, 59);
        best(early + "l0,8,58;", 0, 0, 59);
    }

    /** So many skins, the last of which is never found, in nine places. */
    private static Run ofSkins(int n) {
        return Towns.laid(NINE + "s0,9,0;".repeat(n - 1) + "s8,19,3;l0,1,7;");
    }

    // best: "the PLACE (what = 0), the day (1; NONE). BAD."
    private static void best() {
        for (int n : new int[] {1, 2, 5}) {
            Run x = ofSkins(n);
            due.are("best of the last", new int[] {x.best(n - 1, 0), x.best(n - 1, 1)}, 0, NONE);
            for (int i : new int[] {-1, n, n + 1, MIN, MAX}) {
                due.refused("best(" + i + ", 0) of " + n, x, y -> y.best(i, 0), BAD);
                due.refused("best(" + i + ", 1) of " + n, x, y -> y.best(i, 1), BAD);
            }
            for (int what : new int[] {-1, 2, MIN, MAX}) {
                due.refused("best(0, " + what + ")", x, y -> y.best(0, what), BAD);
            }
            due.refused("best(0, 0) changes nothing either", x, y -> y.best(0, 0), 0);
        }
    }

    // hide: "A SKIN is at PLACE p at first: where it was."
    private static void hideWhereItWas() {
        Run x = ofSkins(5);
        due.are("to the last, to the first", new int[] {x.hide(0, 8), x.hide(0, 0), x.hide(0, 0), x.hide(0, 1)}, 0, 8, 0, 0);
        due.are("the last skin", new int[] {x.hide(4, 0), x.hide(4, 8), x.hide(4, 8), x.skin(4, 0)}, 8, 0, 8, 8);
        due.are("it is there from day 1 on", Towns.course(x, 0, 3), 1, 1, 1);
        due.is("and is found there", x.woman(0, 1), 7);
    }

    // hide: BAD
    private static void hide() {
        for (int n : new int[] {1, 2, 5}) {
            Run x = ofSkins(n);
            for (int i : new int[] {-1, n, n + 1, MIN, MAX}) {
                due.refused("hide(" + i + ", 0) of " + n, x, y -> y.hide(i, 0), BAD);
            }
            for (int p : new int[] {-1, 9, 10, MIN, MAX}) {
                due.refused("hide(0, " + p + ")", x, y -> y.hide(0, p), BAD);
            }
        }
        for (int n = 1; n <= 9; n++) {
            int places = n;
            Run x = Towns.laid("p0,5;".repeat(n) + "s0,9,0;");
            due.refused("hide(0, " + n + ") of " + n, x, y -> y.hide(0, places), BAD);
            due.is("hide(0, n - 1) of " + n, x.hide(0, n - 1), 0);
            due.is("it is there", x.where(0, 60), n - 1);
        }
    }

    // look: "A look more: how many. BAD"
    private static void look() {
        for (int n : new int[] {1, 2, 5}) {
            Run x = ofSkins(n);
            for (int i : new int[] {-1, n, n + 1, MIN, MAX}) {
                due.refused("look(" + i + ", 0, 1) of " + n, x, y -> y.look(i, 0, 1), BAD);
            }
            due.is("look(0, 0, 1)", x.look(0, 0, 1), 2);
            due.is("look of the last woman", x.look(n - 1, 8, 1), 3);
            due.is("she finds it", x.woman(n - 1, 1), 1);
        }
        for (int n = 1; n <= 9; n++) {
            int places = n;
            Run x = Towns.laid("p0,5;".repeat(n) + "s" + (n - 1) + ",9,0;");
            due.refused("look(0, -1, 1) of " + n, x, y -> y.look(0, -1, 1), BAD);
            due.refused("look(0, " + n + ", 1) of " + n, x, y -> y.look(0, places, 1), BAD);
            due.is("look(0, n - 1, 1) of " + n, x.look(0, n - 1, 1), 1);
            due.is("it is found there", x.woman(0, 1), 1);
        }
        for (int p : new int[] {MIN, MAX}) {
            due.refused("look(0, " + p + ", 1)", ofSkins(1), y -> y.look(0, p, 1), BAD);
        }
    }

    // "on day T (1 to 60)" (look)
    private static void lookToDay60() {
        for (int t : new int[] {1, 2, 59, 60}) {
            Run x = Towns.laid("p0,5;s0,9,0;");
            due.is("look(0, 0, " + t + ")", x.look(0, 0, t), 1);
            due.is("found on " + t, x.woman(0, 1), t);
        }
        for (int t : new int[] {-1, 0, 61, 62, MIN, MAX}) {
            due.refused("look(0, 0, " + t + ")", Towns.laid("p0,5;s0,9,0;"), y -> y.look(0, 0, t), BAD);
        }
    }

    // "a look be told (9 in all at most)"
    private static void nineLooksInAll() {
        for (int told = 0; told <= 9; told++) {
            Run x = Towns.laid("p0,5;p0,5;s0,9,0;" + "l0,1,1;".repeat(told));
            for (int k = told + 1; k <= 9; k++) {
                due.is("a look more", x.look(0, k < 9 ? 1 : 0, 60), k);
            }
            due.is("the ninth look is one", x.woman(0, 1), told < 9 ? 60 : NONE);
            due.is("looks", x.count(2), 9);
            due.refused("the tenth look", x, y -> y.look(0, 0, 1), FULL);
            due.refused("the tenth look again", x, y -> y.look(0, 0, 1), FULL);
        }
    }

    // look: "FULL", behind BAD
    private static void fullOfLooks() {
        Run x = Towns.laid("p0,5;s0,9,0;" + "l0,0,9;".repeat(8));
        due.is("the ninth", x.look(0, 0, 8), 9);
        due.refused("BAD woman", x, y -> y.look(1, 0, 1), BAD);
        due.refused("BAD place", x, y -> y.look(0, 1, 1), BAD);
        due.refused("BAD day 0", x, y -> y.look(0, 0, 0), BAD);
        due.refused("BAD day 61", x, y -> y.look(0, 0, 61), BAD);
        due.refused("FULL", x, y -> y.look(0, 0, 1), FULL);
        due.is("undone, there is room", x.undo(), 0);
        due.is("the ninth again", x.look(0, 0, 7), 9);
        due.is("found by it", x.woman(0, 1), 7);
    }

    // "the last 8 can be" (hidings)
    private static void undoHidings() {
        for (int n = 0; n <= 10; n++) {
            Run x = Towns.laid(NINE + "s0,9,0;");
            for (int k = 1; k <= n; k++) {
                x.hide(0, k % 9);
            }
            int most = Math.min(n, 8);
            due.is("can be undone of " + n, x.count(4), most);
            for (int k = 1; k <= most; k++) {
                due.is("undo of " + n, x.undo(), most - k);
                due.is("where it was", x.skin(0, 0), (n - k) % 9);
            }
            due.refused("undo no more of " + n, x, Run::undo, NO);
            due.is("where it stays", x.skin(0, 0), (n - most) % 9);
        }
    }

    // "the last 8 can be" (looks)
    private static void undoLooks() {
        for (int n = 0; n <= 9; n++) {
            Run x = Towns.laid("p0,5;s0,9,0;");
            for (int k = 1; k <= n; k++) {
                x.look(0, 0, 61 - k);
            }
            int most = Math.min(n, 8);
            due.is("can be undone of " + n, x.count(4), most);
            for (int k = 1; k <= most; k++) {
                due.is("undo of " + n, x.undo(), most - k);
                due.are("looks", new int[] {x.count(2), x.woman(0, 1)}, n - k, n == k ? NONE : 61 - (n - k));
            }
            due.refused("undo no more of " + n, x, Run::undo, NO);
        }
        Run told = Towns.laid("p0,5;s0,9,0;" + "l0,0,1;".repeat(9));
        due.refused("the text's looks", told, Run::undo, NO);
    }

    // "(all of one call at once"
    private static void undoAllOfOneCall() {
        Run x = Towns.laid("p0,5;p0,5;s0,9,0;s0,9,0;l1,1,4;");
        String first = x.whole();
        x.hide(0, 1);
        due.are("by one call", new int[] {x.woman(1, 0), x.woman(1, 1), x.skin(0, 3), x.where(0, 5)}, 0, 4, 1, NONE);
        due.is("undo it", x.undo(), 0);
        due.same("all of it is undone", x.whole(), first);
        x.look(0, 0, 2);
        due.is("undo the look", x.undo(), 0);
        due.same("all of that is undone", x.whole(), first);
    }

    // "such by which nothing becomes another, too"
    private static void undoWhatBecameNoOther() {
        Run x = Towns.laid("p0,5;p0,5;s1,9,0;");
        for (int k = 1; k <= 9; k++) {
            due.is("hidden where it is", x.hide(0, 1), 1);
            due.is("can be undone", x.count(4), Math.min(k, 8));
        }
        for (int k = 7; k >= 0; k--) {
            due.is("undo", x.undo(), k);
            due.is("where it is", x.skin(0, 0), 1);
        }
        due.refused("undo no more", x, Run::undo, NO);
        Run y = Towns.laid("p0,5;p0,5;s1,9,0;");
        y.hide(0, 0);
        for (int k = 1; k <= 7; k++) {
            y.hide(0, 0);
        }
        due.is("the last eight", y.count(4), 8);
        for (int k = 1; k <= 8; k++) {
            y.undo();
        }
        due.is("the eighth last is undone", y.skin(0, 0), 1);
        Run z = Towns.laid("p0,5;p0,5;s1,9,0;");
        z.hide(0, 0);
        for (int k = 1; k <= 8; k++) {
            z.hide(0, 0);
            z.undo();
            z.look(0, 1, 60);
        }
        for (int k = 1; k <= 8; k++) {
            z.undo();
        }
        due.are("the ninth last is not", new int[] {z.skin(0, 0), z.count(2), z.count(4)}, 0, 0, 0);
    }

    // "UNDONE is the latest of these"
    private static void undoTheLatestOfBoth() {
        Run x = Towns.laid("p0,5;p0,5;p0,5;s0,9,0;s0,9,1;");
        x.hide(0, 1);
        x.look(0, 1, 9);
        x.hide(1, 2);
        x.look(1, 2, 7);
        due.is("undo the second look", x.undo(), 3);
        due.are("as ahead of it", new int[] {x.count(2), x.skin(0, 0), x.skin(1, 0)}, 1, 1, 2);
        due.is("undo the second hiding", x.undo(), 2);
        due.are("as ahead of that", new int[] {x.count(2), x.skin(0, 0), x.skin(1, 0)}, 1, 1, 0);
        due.is("undo the first look", x.undo(), 1);
        due.are("as ahead of this", new int[] {x.count(2), x.skin(0, 0), x.skin(1, 0)}, 0, 1, 0);
        due.is("undo the first hiding", x.undo(), 0);
        due.are("as at first", new int[] {x.count(2), x.skin(0, 0), x.skin(1, 0)}, 0, 0, 0);
        due.refused("undo no more", x, Run::undo, NO);
    }

    // Only hidings and looks are UNDONE: no other call takes one of the eight places, nor adds one.
    private static void undoNothingElse() {
        Run x = Towns.laid("p0,5;p0,5;s0,9,0;");
        x.hide(0, 1);
        x.seen(0, 0, 1, true);
        x.forget();
        x.keep();
        x.write(8, 0L);
        x.wipe();
        x.lay();
        x.best(0, 0);
        x.year(3, 0);
        x.sure(0, 0);
        x.hide(0, 2);
        x.look(1, 0, 1);
        due.are("one can be undone", new int[] {x.count(4), x.undo(), x.skin(0, 0)}, 1, 0, 0);
        due.is("it stays kept", x.count(5), 1);
        due.refused("undo no more", x, Run::undo, NO);
    }

    private static void undoAndChangeAnew() {
        Run x = Towns.laid(NINE + "s0,9,0;");
        for (int k = 1; k <= 8; k++) {
            x.hide(0, k);
        }
        due.are("three undone", new int[] {x.undo(), x.undo(), x.undo()}, 7, 6, 5);
        due.are("three more", new int[] {x.hide(0, 0), x.hide(0, 1), x.hide(0, 2), x.count(4)}, 5, 0, 1, 8);
        due.are("one more than eight", new int[] {x.hide(0, 3), x.count(4)}, 2, 8);
        for (int k = 0; k < 8; k++) {
            x.undo();
        }
        due.are("the first of all stays", new int[] {x.skin(0, 0), x.undo()}, 1, NO);
    }
}
