/** Promises 8 to 12: where skins are, their sizes, who finds which, who goes when. */
final class DaysTest {
    private static final Due due = new Due("DaysTest");
    private static final int BAD = Due.BAD, NONE = Due.NONE;
    private static final int[] WRONG_DAYS = {0, -1, 61, Integer.MIN_VALUE, Integer.MAX_VALUE};
    private static final int[] WRONG_WOMEN = {-1, 2, 5, Integer.MIN_VALUE, Integer.MAX_VALUE};

    public static void main(String[] args) {
        stayAndNext();
        fro();
        home();
        foundIsNowhere();
        size();
        whoFinds();
        whoFindsAmongSeveral();
        smokeMakesItFit();
        tides();
        fits();
        gone();
        wrongInputs();
        due.end();
    }

    private static void stayAndNext() {
        Run x = Towns.laid("p0,5;p0,5;p1,2;p1,4;s1,9,0;s1,9,1;s3,9,1;");
        due.are("STAY", Towns.course(x, 0, 5), 1, 1, 1, 1, 1);
        due.are("NEXT", Towns.course(x, 1, 6), 1, 2, 3, 0, 1, 2);
        due.are("NEXT from the last", Towns.course(x, 2, 3), 3, 0, 1);
        due.is("STAY to the end", x.where(0, 60), 1);
        due.is("NEXT to the end", x.where(1, 60), 0);
        Run alone = Towns.laid("p0,5;s0,9,0;s0,9,1;s0,9,2;s0,9,3;");
        for (int i = 0; i < 4; i++) {
            due.are("the only place, kind " + i, Towns.course(alone, i, 4), 0, 0, 0, 0);
        }
    }

    private static void fro() {
        Run x = Towns.laid("p0,5;p0,5;p1,2;p1,4;s0,9,2;s1,9,2;s2,9,2;s3,9,2;");
        due.are("FRO from 0", Towns.course(x, 0, 9), 0, 1, 2, 3, 2, 1, 0, 1, 2);
        due.are("FRO from 1", Towns.course(x, 1, 9), 1, 2, 3, 2, 1, 0, 1, 2, 3);
        due.are("FRO from 2", Towns.course(x, 2, 9), 2, 3, 2, 1, 0, 1, 2, 3, 2);
        due.are("FRO from the last", Towns.course(x, 3, 9), 3, 2, 1, 0, 1, 2, 3, 2, 1);
        due.is("FRO to the end", x.where(0, 60), 1);
        Run two = Towns.laid("p0,5;p0,5;s0,9,2;s1,9,2;");
        due.are("FRO from 0 of two", Towns.course(two, 0, 4), 0, 1, 0, 1);
        due.are("FRO from 1 of two", Towns.course(two, 1, 4), 1, 0, 1, 0);
    }

    private static void home() {
        Run x = Towns.laid("p0,5;p1,5;p0,2;p2,4;s0,9,3;s1,9,3;s2,9,3;s3,9,3;");
        due.are("HOME from 0", Towns.course(x, 0, 7), 0, 1, 2, 0, 1, 2, 0);
        due.are("HOME from 1", Towns.course(x, 1, 4), 1, 2, 0, 1);
        due.are("HOME from 2", Towns.course(x, 2, 4), 2, 0, 1, 2);
        due.are("HOME from the last", Towns.course(x, 3, 4), 3, 0, 1, 2);
        Run other = Towns.laid("p4,5;p1,5;p1,2;p4,4;s3,9,3;s2,9,3;");
        due.are("HOME past a house", Towns.course(other, 0, 6), 3, 0, 1, 2, 1, 2);
        due.are("HOME to and fro", Towns.course(other, 1, 4), 2, 1, 2, 1);
        Run each = Towns.laid("p0,5;p1,5;p2,5;s1,9,3;");
        due.are("HOME, each place a house", Towns.course(each, 0, 5), 1, 2, 0, 1, 2);
    }

    private static void foundIsNowhere() {
        Run x = Towns.laid("p0,5;p0,5;s0,9,1;s0,9,0;l0,0,3;");
        due.are("where of the found one", Towns.course(x, 0, 5), 0, 1, 0, NONE, NONE);
        due.are("where of the other one", Towns.course(x, 1, 5), 0, 0, 0, 0, 0);
        due.are("size of the found one", Towns.sizes(x, 0, 1, 3, 4, 60), 9, 9, NONE, NONE);
        due.is("where found, to the end", x.where(0, 60), NONE);
        Run last = Towns.laid("p0,5;s0,9,1;l0,0,60;");
        due.is("found on the last day", last.where(0, 60), 0);
        due.is("size on the last day", last.size(0, 60), 9);
    }

    private static void size() {
        Run never = Towns.laid("p0,5;s0,20,0;");
        due.are("size without smoke", Towns.sizes(never, 0, 1, 30, 60), 20, 20, 20);
        Run third = Towns.laid("p0,5;s0,4,0;w3;");
        due.are("size by w3", Towns.sizes(third, 0, 1, 2, 3, 5, 6, 8, 9, 11, 12, 60), 4, 4, 3, 3, 2, 2, 1, 1, 1, 1);
        Run daily = Towns.laid("p0,5;s0,20,0;s0,1,0;w1;");
        due.are("size by w1", Towns.sizes(daily, 0, 1, 2, 18, 19, 20, 60), 19, 18, 2, 1, 1, 1);
        due.are("size 1 stays", Towns.sizes(daily, 1, 1, 2, 60), 1, 1, 1);
        Run once = Towns.laid("p0,5;s0,5,0;w60;");
        due.are("size by w60", Towns.sizes(once, 0, 59, 60), 5, 4);
    }

    private static int[] woman(Run x, int i) {
        return new int[] {x.woman(i, 0), x.woman(i, 1), x.woman(i, 2)};
    }

    private static void whoFinds() {
        Run x = Towns.laid("p0,5;p0,5;s0,9,0;s0,11,0;s1,6,0;l0,1,1;l1,1,2;l0,0,3;l0,0,4;l1,0,5;l2,0,6;");
        // 0: nothing fits at place 1 on day 1 (6 is 3 away); she finds her own on day 3, and no more on day 4.
        due.are("woman 0", woman(x, 0), 0, 3, 3);
        due.are("woman 1", woman(x, 1), 1, 5, 5);
        due.are("woman 2 (looks where none is left)", woman(x, 2), NONE, NONE, NONE);
        due.is("skin 2 is found by nobody", x.skin(2, 3), NONE);
        Run idle = Towns.laid("p0,5;s0,9,0;");
        due.are("woman who never looks", woman(idle, 0), NONE, NONE, NONE);
        Run late = Towns.laid("p0,5;p0,5;s0,9,1;l0,1,59;l0,1,60;");
        due.are("woman who looks on the last day", woman(late, 0), 0, 60, 60);
        Run edges = Towns.laid("p0,5;s0,9,0;s0,11,0;s0,14,0;l2,0,1;l0,0,2;l1,0,3;");
        due.are("too small by 3 for her, her own fits", woman(edges, 2), 2, 1, 1);
        due.are("the lower one first", woman(edges, 0), 0, 2, 2);
        due.are("her own then", woman(edges, 1), 1, 3, 3);
    }

    private static void whoFindsAmongSeveral() {
        Run x = Towns.laid("p0,5;p0,5;s0,9,0;s0,8,0;s0,7,0;l2,0,4;l1,0,2;l0,0,2;l2,0,2;");
        // All on day 2, in the order told: 1 takes skin 0, 0 takes skin 1, 2 takes skin 2.
        due.are("first of the day", woman(x, 1), 0, 2, 2);
        due.are("second of the day", woman(x, 0), 1, 2, 2);
        due.are("third of the day", woman(x, 2), 2, 2, 2);
        due.are("finders", new int[] {x.skin(0, 3), x.skin(1, 3), x.skin(2, 3)}, 1, 0, 2);
        Run twice = Towns.laid("p0,5;s0,9,0;s0,9,0;l1,0,1;l1,0,1;l0,0,1;");
        due.are("she who has found one looks for none", woman(twice, 1), 0, 1, 1);
        due.are("the other one finds the next", woman(twice, 0), 1, 1, 1);
        Run told = Towns.laid("p0,5;s0,9,0;s0,9,0;l0,0,7;");
        told.look(1, 0, 3);
        due.are("a look told later is on its day", woman(told, 1), 0, 3, 3);
        due.are("the earlier told one finds what is left", woman(told, 0), 1, 7, 7);
        Run same = Towns.laid("p0,5;s0,9,0;s0,9,0;l0,0,7;");
        same.look(1, 0, 7);
        due.are("on one day, as told", new int[] {same.woman(0, 0), same.woman(1, 0)}, 0, 1);
    }

    private static void smokeMakesItFit() {
        Run x = Towns.laid("p0,5;p0,5;s0,10,0;s1,5,0;w2;l1,0,5;l1,0,6;l0,0,9;");
        // Skin 0 is 10, 9, 9, 8, 8, 7: it fits woman 1 (5 at first) from day 6 on.
        due.are("woman 1", woman(x, 1), 0, 6, 6);
        due.are("woman 0", woman(x, 0), NONE, NONE, NONE);
        Run own = Towns.laid("p0,5;s0,10,0;w1;l0,0,3;");
        due.are("her own is too small on day 3", woman(own, 0), NONE, NONE, NONE);
        Run still = Towns.laid("p0,5;s0,10,0;w1;l0,0,2;");
        due.are("her own fits yet on day 2", woman(still, 0), 0, 2, 2);
        Run least = Towns.laid("p0,5;s0,3,0;w1;l0,0,60;");
        due.are("1 is the least, and fits 3", woman(least, 0), 0, 60, 60);
    }

    private static int leaves(int tide, int day) {
        return Towns.laid("p0,5;s0,9,0;t" + tide + ";l0,0," + day + ";").woman(0, 2);
    }

    private static void tides() {
        due.are("the day of leaving", new int[] {leaves(1, 1), leaves(1, 60), leaves(7, 1), leaves(7, 6), leaves(7, 7),
            leaves(7, 8), leaves(7, 60), leaves(19, 58), leaves(20, 60), leaves(20, 1), leaves(17, 52), leaves(16, 49)},
                1, 60, 7, 7, 7, 14, 63, 76, 60, 20, 68, 64);
    }

    private static void fits() {
        Run x = Towns.laid("p0,5;s0,6,0;s0,8,0;s0,9,0;s0,4,0;s0,3,0;l0,0,1;l1,0,1;");
        due.are("fits", new int[] {x.fits(0, 1), x.fits(1, 1), x.fits(2, 1), x.fits(3, 1), x.fits(4, 1)},
                0b01011, 0b00111, 0b00110, 0b11001, 0b11000);
        due.is("fits, though some were found", x.fits(0, 60), 0b01011);
        Run smoked = Towns.laid("p0,5;s0,6,0;s0,10,0;w3;");
        due.are("fits woman 0 by smoke", new int[] {smoked.fits(0, 1), smoked.fits(0, 5), smoked.fits(0, 6), smoked.fits(0, 8),
            smoked.fits(0, 9), smoked.fits(0, 18), smoked.fits(0, 21)}, 1, 1, 3, 3, 2, 2, 0);
        due.are("fits woman 1 by smoke", new int[] {smoked.fits(1, 1), smoked.fits(1, 8), smoked.fits(1, 9)}, 2, 2, 0);
        due.is("fits none at last", smoked.fits(0, 60), 0);
        Run dust = Towns.laid("p0,5;s0,3,0;s0,4,0;w1;");
        due.are("fits at last", new int[] {dust.fits(0, 60), dust.fits(1, 60)}, 3, 0);
    }

    private static void gone() {
        Run x = Towns.laid("p0,5;p0,5;s0,3,0;s0,8,0;s1,13,0;s1,18,0;t7;l0,0,1;l1,0,7;l2,1,8;l3,1,60;");
        due.are("gone", new int[] {x.gone(1), x.gone(6), x.gone(7), x.gone(8), x.gone(13), x.gone(14), x.gone(60),
            x.gone(62), x.gone(63), x.gone(80)}, 0, 0, 2, 2, 2, 3, 3, 3, 4, 4);
        Run late = Towns.laid("p0,5;s0,3,0;t20;l0,0,60;");
        due.are("gone by tide 20", new int[] {late.gone(59), late.gone(60)}, 0, 1);
        Run latest = Towns.laid("p0,5;s0,3,0;t19;l0,0,60;");
        due.are("gone by tide 19", new int[] {latest.gone(75), latest.gone(76)}, 0, 1);
        int[] wrong = {0, -1, 81, Integer.MIN_VALUE, Integer.MAX_VALUE};
        for (int t : wrong) {
            due.is("gone(" + t + ")", x.gone(t), BAD);
        }
    }

    private static void wrongInputs() {
        Run x = Towns.laid("p0,5;s0,3,0;s0,3,1;l0,0,1;");
        for (int t : WRONG_DAYS) {
            due.is("where(0, " + t + ")", x.where(0, t), BAD);
            due.is("size(1, " + t + ")", x.size(1, t), BAD);
            due.is("fits(1, " + t + ")", x.fits(1, t), BAD);
        }
        for (int i : WRONG_WOMEN) {
            due.is("where(" + i + ", 1)", x.where(i, 1), BAD);
            due.is("size(" + i + ", 1)", x.size(i, 1), BAD);
            due.is("fits(" + i + ", 1)", x.fits(i, 1), BAD);
            due.is("woman(" + i + ", 0)", x.woman(i, 0), BAD);
            due.is("woman(" + i + ", 1)", x.woman(i, 1), BAD);
            due.is("woman(" + i + ", 2)", x.woman(i, 2), BAD);
        }
        due.is("woman(0, -1)", x.woman(0, -1), BAD);
        due.is("woman(0, 3)", x.woman(0, 3), BAD);
        // BAD comes ahead of NONE: skin 0 was found on day 1.
        due.is("where(0, 2)", x.where(0, 2), NONE);
        due.is("where(0, 61) of the found one", x.where(0, 61), BAD);
        due.is("size(0, 0) of the found one", x.size(0, 0), BAD);
    }
}
