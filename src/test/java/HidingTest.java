/** Promises 13 to 16: where to hide, hiding anew, looks told, undone. */
final class HidingTest {
    private static final Due due = new Due("HidingTest");
    private static final int BAD = Due.BAD, NO = Due.NO, FULL = Due.FULL, NONE = Due.NONE;
    private static final int[] WRONG = {-1, 3, 9, Integer.MIN_VALUE, Integer.MAX_VALUE};

    public static void main(String[] args) {
        best();
        bestWithOthers();
        hide();
        look();
        undo();
        undoOfMany();
        due.end();
    }

    private static int[] best(Run x, int i) {
        return new int[] {x.best(i, 0), x.best(i, 1)};
    }

    private static void best() {
        due.are("found the latest at 1", best(Towns.laid("p0,5;p0,5;p0,5;s0,9,0;l0,0,3;l0,1,9;l0,2,4;"), 0), 1, 9);
        due.are("nobody looks at 2 or 3", best(Towns.laid("p0,5;p0,5;p0,5;p0,5;s0,9,0;l0,0,3;l0,1,60;"), 0), 2, NONE);
        due.are("she never looks", best(Towns.laid("p0,5;p0,5;s1,9,0;"), 0), 0, NONE);
        due.are("the only place", best(Towns.laid("p0,5;s0,9,0;l0,0,60;"), 0), 0, 60);
        due.are("of several the lowest", best(Towns.laid("p0,5;p0,5;p0,5;s0,9,0;l0,0,3;l0,1,5;l0,2,5;"), 0), 1, 5);
        // By NEXT of three it is at place 0 on days 3, 6, 9.. from 1, and on 2, 5.. from 2.
        due.are("moved", best(Towns.laid("p0,5;p0,5;p0,5;s0,9,1;l0,0,1;l0,0,3;l0,0,5;"), 0), 2, 5);
        due.are("one who does not fit stays", best(Towns.laid("p0,5;p0,5;s0,9,0;w1;l0,0,3;l0,1,2;"), 0), 0, NONE);
        Run x = Towns.laid("p0,5;p0,5;s0,9,0;s0,9,1;l0,0,1;");
        for (int i : new int[] {-1, 2, 5, Integer.MIN_VALUE, Integer.MAX_VALUE}) {
            due.is("best(" + i + ", 0)", x.best(i, 0), BAD);
            due.is("best(" + i + ", 1)", x.best(i, 1), BAD);
        }
        due.is("best(0, -1)", x.best(0, -1), BAD);
        due.is("best(0, 2)", x.best(0, 2), BAD);
        String before = x.whole();
        x.best(0, 0);
        x.best(1, 1);
        due.same("best changes nothing", x.whole(), before);
    }

    private static void bestWithOthers() {
        // She finds skin 1 at place 1 on day 2 if hers is not found before: hers at 0 is found on day 1.
        due.are("another's skin ends it", best(Towns.laid("p0,5;p0,5;p0,5;s0,9,0;s1,9,0;l0,0,1;l0,1,2;"), 0), 1, 2);
        // At place 1 woman 1 takes it on day 1, and woman 0 finds none at all.
        due.are("another takes hers", best(Towns.laid("p0,5;p0,5;s0,9,0;s0,1,0;s0,9,0;l2,1,1;l0,0,2;l0,1,2;"), 0), 0, 2);
        due.are("another takes hers, none is left", best(Towns.laid("p0,5;p0,5;s0,9,0;s0,9,0;l1,1,1;l0,1,2;l0,1,3;l0,0,1;"), 1), 0, NONE);
        Run x = Towns.laid("p0,5;p0,5;s0,9,0;l0,0,3;");
        due.are("ahead of a look", best(x, 0), 1, NONE);
        x.look(0, 1, 2);
        due.are("behind a look", best(x, 0), 0, 3);
        x.undo();
        due.are("undone", best(x, 0), 1, NONE);
    }

    private static void hide() {
        Run x = new Run();
        due.is("hide(1, 0)", x.hide(1, 0), 2);
        due.is("it is there", x.skin(1, 0), 0);
        due.are("and goes from there", Towns.course(x, 1, 4), 0, 1, 2, 0);
        due.is("hide(1, 1)", x.hide(1, 1), 0);
        due.is("found then by woman 0", x.woman(0, 1), 1);
        due.is("it is skin 1", x.woman(0, 0), 1);
        due.is("hide to where it is", x.hide(1, 1), 1);
        due.is("that can be undone too", x.count(4), 3);
        due.is("starts do not change", x.starts(1), 7);
        String before = x.whole();
        for (int p : WRONG) {
            due.is("hide(0, " + p + ")", x.hide(0, p), BAD);
        }
        for (int i : new int[] {-1, 2, 5, Integer.MIN_VALUE, Integer.MAX_VALUE}) {
            due.is("hide(" + i + ", 0)", x.hide(i, 0), BAD);
        }
        due.same("BAD changes nothing", x.whole(), before);
    }

    private static void look() {
        Run x = new Run();
        String before = x.whole();
        for (int p : WRONG) {
            due.is("look(0, " + p + ", 1)", x.look(0, p, 1), BAD);
        }
        for (int i : new int[] {-1, 2, 5, Integer.MIN_VALUE, Integer.MAX_VALUE}) {
            due.is("look(" + i + ", 0, 1)", x.look(i, 0, 1), BAD);
        }
        for (int t : new int[] {-1, 0, 61, Integer.MIN_VALUE, Integer.MAX_VALUE}) {
            due.is("look(0, 0, " + t + ")", x.look(0, 0, t), BAD);
        }
        due.same("BAD changes nothing", x.whole(), before);
        for (int k = 3; k <= 9; k++) {
            due.is("look", x.look(1, 2, 60), k);
        }
        due.is("one look too many", x.look(0, 0, 1), FULL);
        due.is("FULL adds none", x.count(2), 9);
        due.is("FULL can not be undone", x.count(4), 7);
        due.is("FULL finds none", x.woman(0, 0), NONE);
        due.is("BAD ahead of FULL", x.look(0, 3, 1), BAD);
        due.is("undo", x.undo(), 6);
        due.is("look in its stead", x.look(0, 0, 1), 9);
        due.is("found by it", x.woman(0, 1), 1);
        Run told = Towns.laid("p0,5;s0,9,0;" + "l0,0,1;".repeat(9));
        due.is("nine told in the text", told.look(0, 0, 1), FULL);
    }

    private static void undo() {
        Run x = new Run();
        due.is("undo of nothing", x.undo(), NO);
        String first = x.whole();
        x.hide(0, 2);
        String second = x.whole();
        x.look(0, 2, 4);
        due.is("found", x.woman(0, 1), 4);
        due.is("undo the look", x.undo(), 1);
        due.same("as before the look", x.whole(), second);
        due.is("undo the hiding", x.undo(), 0);
        due.same("as at first", x.whole(), first);
        due.is("undo no more", x.undo(), NO);
        due.is("the looks told in the text stay", x.count(2), 2);
        x.hide(0, 0);
        x.hide(0, 1);
        due.is("undo one of two", x.undo(), 1);
        due.is("where it was", x.skin(0, 0), 0);
        due.is("undo what changed nothing", x.undo(), 0);
        due.is("where it was then", x.skin(0, 0), 0);
        x.seen(0, 0, 1, true);
        due.is("what is seen is not undone", x.undo(), NO);
        due.is("seen yet", x.count(3), 1);
        x.hide(0, 9);
        x.look(9, 0, 1);
        due.is("BAD is not undone", x.undo(), NO);
    }

    private static void undoOfMany() {
        Run x = new Run();
        int[] at = {1, 2, 0, 2, 1, 0, 1, 2, 0, 1, 2};
        for (int p : at) {
            x.hide(1, p);
        }
        due.is("the last eight", x.count(4), 8);
        int[] left = new int[8];
        int[] where = new int[8];
        for (int k = 0; k < 8; k++) {
            left[k] = x.undo();
            where[k] = x.skin(1, 0);
        }
        due.are("how many more", left, 7, 6, 5, 4, 3, 2, 1, 0);
        due.are("where it was", where, 1, 0, 2, 1, 0, 1, 2, 0);
        due.is("no more than eight", x.undo(), NO);
        due.is("it stays there", x.skin(1, 0), 0);
        Run y = new Run();
        y.look(0, 1, 1);
        for (int k = 0; k < 4; k++) {
            y.hide(0, 1);
            y.look(1, 1, 1 + k);
        }
        due.is("looks", y.count(2), 7);
        for (int k = 0; k < 8; k++) {
            y.undo();
        }
        due.is("the ninth last look stays", y.count(2), 3);
        due.is("where it is", y.skin(0, 0), 0);
        due.is("undo no more", y.undo(), NO);
    }
}
