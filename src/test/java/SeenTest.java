/** Promises 17 to 21: what was seen, where a skin can have been, by which laws, in how few looks it is found. */
final class SeenTest {
    private static final Due due = new Due("SeenTest");
    private static final int BAD = Due.BAD, FULL = Due.FULL, NONE = Due.NONE;
    private static final int[] WRONG_SKINS = {-1, 2, 5, Integer.MIN_VALUE, Integer.MAX_VALUE};

    public static void main(String[] args) {
        seen();
        forget();
        starts();
        startsBySeveral();
        laws();
        sureOfStaying();
        sureOfMoving();
        sureFirstPlace();
        sureWrong();
        due.end();
    }

    private static void seen() {
        Run x = new Run();
        String before = x.whole();
        for (int i : WRONG_SKINS) {
            due.is("seen(" + i + ", 0, 1)", x.seen(i, 0, 1, true), BAD);
        }
        for (int p : new int[] {-1, 3, 9, Integer.MIN_VALUE, Integer.MAX_VALUE}) {
            due.is("seen(0, " + p + ", 1)", x.seen(0, p, 1, false), BAD);
        }
        for (int t : new int[] {-1, 0, 61, Integer.MIN_VALUE, Integer.MAX_VALUE}) {
            due.is("seen(0, 0, " + t + ")", x.seen(0, 0, t, true), BAD);
        }
        due.same("BAD changes nothing", x.whole(), before);
        for (int k = 1; k <= 8; k++) {
            due.is("seen", x.seen(k % 2, k % 3, k == 8 ? 60 : k, k % 2 == 0), k);
        }
        String full = x.whole();
        due.is("seen too many", x.seen(0, 0, 1, true), FULL);
        due.is("BAD ahead of FULL", x.seen(0, 0, 61, true), BAD);
        due.same("FULL changes nothing", x.whole(), full);
        due.is("count", x.count(3), 8);
        due.is("seen is not undone", x.undo(), Due.NO);
    }

    private static void forget() {
        Run x = new Run();
        due.is("forget nothing", x.forget(), 0);
        x.seen(0, 1, 1, true);
        x.seen(0, 1, 1, true);
        due.is("starts", x.starts(0), 2);
        due.is("forget two, the same twice", x.forget(), 2);
        due.is("forget again", x.forget(), 0);
        due.is("starts of all", x.starts(0), 7);
        due.is("laws of all", x.laws(0), 15);
        due.is("seen anew", x.seen(0, 2, 1, true), 1);
        due.is("starts anew", x.starts(0), 4);
    }

    private static void starts() {
        Run x = Towns.laid("p0,5;p1,5;p0,2;p2,4;s0,9,0;s0,9,1;s0,9,2;s0,9,3;l0,0,1;l1,1,2;l2,2,3;");
        for (int i = 0; i < 4; i++) {
            due.is("starts of " + i + ", nothing seen", x.starts(i), 15);
        }
        for (int i = 0; i < 4; i++) {
            x.seen(i, 2, 3, true);
        }
        due.is("STAY", x.starts(0), 0b0100);
        // From 0, 1, 2, 3 it is on day 3 at 2, 3, 0, 1.
        due.is("NEXT", x.starts(1), 0b0001);
        // From 0, 1, 2, 3: 2, 3, 2, 1.
        due.is("FRO", x.starts(2), 0b0101);
        // From 0, 1, 2, 3: 2, 0, 1, 1.
        due.is("HOME", x.starts(3), 0b0001);
        due.is("seen though it was found", x.where(0, 3), NONE);
        x.forget();
        for (int i = 0; i < 4; i++) {
            x.seen(i, 1, 3, false);
        }
        due.is("not, STAY", x.starts(0), 0b1101);
        due.is("not, NEXT", x.starts(1), 0b0111);
        due.is("not, FRO", x.starts(2), 0b0111);
        due.is("not, HOME", x.starts(3), 0b0011);
        for (int i : new int[] {-1, 4, 5, Integer.MIN_VALUE, Integer.MAX_VALUE}) {
            due.is("starts(" + i + ")", x.starts(i), BAD);
        }
    }

    private static void startsBySeveral() {
        Run x = Towns.laid("p0,5;p0,5;p0,5;s0,9,1;s2,9,0;");
        x.seen(0, 0, 1, false);
        due.is("not from 0", x.starts(0), 0b110);
        x.seen(0, 0, 2, false);
        due.is("not from 2", x.starts(0), 0b010);
        x.seen(1, 0, 3, true);
        due.is("another skin", x.starts(0), 0b010);
        due.is("the other skin", x.starts(1), 0b001);
        x.seen(0, 0, 60, true);
        due.is("from 1 it is at 0 on day 60", x.starts(0), 0b010);
        x.seen(0, 0, 59, true);
        due.is("no start at all", x.starts(0), 0);
        due.is("the other skin yet", x.starts(1), 0b001);
        x.hide(1, 1);
        due.is("hiding does not change it", x.starts(1), 0b001);
    }

    private static void laws() {
        Run x = Towns.laid("p0,5;p1,5;p0,2;p2,4;s0,9,0;s2,9,3;");
        due.is("laws, nothing seen", x.laws(0), 15);
        x.seen(0, 2, 3, true);
        // From 0 on day 3: STAY 0, NEXT 2, FRO 2, HOME 2.
        due.is("laws by one", x.laws(0), 0b1110);
        x.seen(0, 0, 5, true);
        // On day 5: STAY 0, NEXT 0, FRO 2, HOME 1.
        due.is("laws by two", x.laws(0), 0b0010);
        due.is("laws of the other one", x.laws(1), 15);
        x.hide(0, 2);
        // From 2: on day 3 STAY 2, NEXT 0, FRO 2, HOME 1; on day 5 STAY 2, FRO 0.
        due.is("laws from elsewhere", x.laws(0), 0b0100);
        x.undo();
        due.is("laws from where it was", x.laws(0), 0b0010);
        x.seen(0, 0, 5, false);
        due.is("laws by what can not be", x.laws(0), 0);
        x.forget();
        x.seen(1, 0, 2, false);
        // From 2 on day 2: STAY 2, NEXT 3, FRO 3, HOME 0.
        due.is("laws by what was not", x.laws(1), 0b0111);
        for (int i : WRONG_SKINS) {
            due.is("laws(" + i + ")", x.laws(i), BAD);
        }
    }

    private static int[] sure(Run x, int i) {
        return new int[] {x.sure(i, 0), x.sure(i, 1)};
    }

    private static void sureOfStaying() {
        Run x = Towns.laid("p0,5;".repeat(9) + "s0,9,0;l0,0,1;");
        due.are("nine places", sure(x, 0), 9, 0);
        x.seen(0, 0, 1, false);
        x.seen(0, 1, 7, false);
        due.are("seven places", sure(x, 0), 7, 2);
        x.seen(0, 5, 9, true);
        due.are("one place", sure(x, 0), 1, 5);
        x.seen(0, 5, 10, false);
        due.are("no place", sure(x, 0), 0, NONE);
        x.forget();
        due.are("all places again", sure(x, 0), 9, 0);
    }

    private static void sureOfMoving() {
        // By NEXT a look a day at places 0, 2, 1 of three.. meets each start in turn: three days.
        due.are("NEXT of three", sure(Towns.laid("p0,5;p0,5;p0,5;s0,9,1;"), 0), 3, 0);
        // By HOME in one house all starts are at 0 or 1 from day 2 on.
        due.are("HOME of two in a house", sure(Towns.laid("p0,5;p0,5;s0,9,3;"), 0), 2, 0);
        // From 0, 1, 2, 3: day 2 at 1, 0, 0, 0; day 1 at 0, then day 2 at 0 leaves none.
        due.are("HOME of four in a house", sure(Towns.laid("p0,5;p0,5;p0,5;p0,5;s0,9,3;"), 0), 2, 0);
        // From 0, 1, 2: day 1 at 0, 1, 2; day 2 at 1, 2, 1; day 3 at 2, 1, 0. Look at 1, then at 1.
        due.are("FRO of three", sure(Towns.laid("p0,5;p0,5;p0,5;s0,9,2;"), 0), 2, 1);
        due.are("FRO of two", sure(Towns.laid("p0,5;p0,5;s0,9,2;"), 0), 2, 0);
        due.are("the only place", sure(Towns.laid("p0,5;s0,9,2;"), 0), 1, 0);
    }

    private static void sureFirstPlace() {
        // By HOME from 1, 2 or 3 it is at 0 on day 2: whatever the first look is, the second one is sure.
        Run x = Towns.laid("p0,5;p0,5;p0,5;p0,5;s0,9,3;");
        x.seen(0, 0, 1, false);
        due.are("an idle look first", sure(x, 0), 2, 0);
        x.seen(0, 2, 1, true);
        due.are("one start", sure(x, 0), 1, 2);
        // By FRO from 0 or 2 of three it is at 1 on day 2; from 1 at 2: starts 0, 1 and 2 need 1 first.
        Run fro = Towns.laid("p0,5;p0,5;p0,5;s0,9,2;");
        fro.seen(0, 1, 1, false);
        due.are("an idle look at 0 first", sure(fro, 0), 2, 0);
    }

    private static void sureWrong() {
        Run x = new Run();
        for (int i : WRONG_SKINS) {
            due.is("sure(" + i + ", 0)", x.sure(i, 0), BAD);
            due.is("sure(" + i + ", 1)", x.sure(i, 1), BAD);
        }
        due.is("sure(0, -1)", x.sure(0, -1), BAD);
        due.is("sure(0, 2)", x.sure(0, 2), BAD);
        x.seen(0, 0, 1, true);
        x.seen(0, 0, 1, false);
        due.is("BAD ahead of NONE", x.sure(0, 2), BAD);
        due.is("sure of no start", x.sure(0, 1), NONE);
        String before = x.whole();
        x.sure(1, 0);
        due.same("sure changes nothing", x.whole(), before);
    }
}
