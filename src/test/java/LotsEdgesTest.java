/**
 * The edges that the document names for LOTS, YEARS, KEPT and counts, and promises 22 to 26. Each sentence has a test of
 * its own: the last value inside, the first one outside, and, where a call is refused, that nothing is another then.
 */
final class LotsEdgesTest {
    private static final Due due = new Due("LotsEdgesTest");
    private static final int BAD = Due.BAD, NO = Due.NO, FULL = Due.FULL, NONE = Due.NONE;
    private static final int MIN = Integer.MIN_VALUE, MAX = Integer.MAX_VALUE;
    private static final String NINE = "p0,5;".repeat(9);

    public static void main(String[] args) {
        lotsByDOfTen();
        lotsInLowestTerms();
        lotsOfNinePlaces();
        lotsOfAHouseAlone();
        lotsPlace();
        lotsHouse();
        lotsPart();
        lotsNo();
        lotsBadAheadOfNo();
        yearOfZ();
        yearModuloHowManyThereAre();
        yearByDay60();
        yearLastOfThese();
        yearOfNone();
        yearChangesNothing();
        year();
        twoKept();
        keptAreHidingsAndLooks();
        keptIsEachOfNineLooks();
        keptAreNotSeenNorTheText();
        backLastFirst();
        backTwiceToTheSame();
        backThenNothingIsUndone();
        backOfNothing();
        countAtTheLeast();
        countAtTheMost();
        count();
        due.end();
    }

    private static void chance(Run x, int p, int house, int above, int below) {
        due.is("lots(" + p + ", " + house + ", 0)", x.lots(p, house, 0), above);
        due.is("lots(" + p + ", " + house + ", 1)", x.lots(p, house, 1), below);
    }

    // "by the chance of D of ten"; of one place alone it is hidden there for sure
    private static void lotsByDOfTen() {
        int[][] tenths = {{1, 10}, {1, 5}, {3, 10}, {2, 5}, {1, 2}, {3, 5}, {7, 10}, {4, 5}, {9, 10}, {1, 1}};
        for (int d = 1; d <= 10; d++) {
            Run x = Towns.laid("p3," + d + ";s0,9,0;");
            chance(x, -1, -1, tenths[d - 1][0], tenths[d - 1][1]);
            chance(x, -1, 3, tenths[d - 1][0], tenths[d - 1][1]);
            chance(x, 0, -1, 1, 1);
            chance(x, 0, 3, 1, 1);
        }
    }

    // "both in lowest terms"
    private static void lotsInLowestTerms() {
        Run x = Towns.laid("p0,10;p0,10;s0,9,0;");
        chance(x, 0, -1, 1, 2);
        chance(x, 1, 0, 1, 2);
        chance(x, -1, -1, 1, 2);
        // 1 by 1 and 1 by 10 make 11 by 10.
        Run y = Towns.laid("p0,1;p0,10;s0,9,0;");
        chance(y, 0, -1, 10, 11);
        chance(y, 1, -1, 1, 11);
        chance(y, -1, -1, 1, 11);
        // 1 by 4 and 1 by 6 make 5 by 12: 3 to 2; 12 by 50.
        Run z = Towns.laid("p0,4;p0,6;s0,9,0;");
        chance(z, 0, 0, 3, 5);
        chance(z, 1, 0, 2, 5);
        chance(z, -1, 0, 6, 25);
        // 1 by 3 and twice 1 by 6: 2 to 1 to 1; 3 by 20.
        Run w = Towns.laid("p0,3;p0,6;p0,6;s0,9,0;");
        chance(w, 0, -1, 1, 2);
        chance(w, 2, -1, 1, 4);
        chance(w, -1, -1, 3, 20);
    }

    private static void lotsOfNinePlaces() {
        for (int d : new int[] {1, 10}) {
            Run x = Towns.laid(("p0," + d + ";").repeat(9) + "s0,9,0;");
            chance(x, 0, -1, 1, 9);
            chance(x, 8, -1, 1, 9);
            chance(x, 8, 0, 1, 9);
            chance(x, -1, -1, 1, d == 1 ? 90 : 9);
            chance(x, -1, 0, 1, d == 1 ? 90 : 9);
        }
        // 1 by 2 + 1 by 3 + .. + 1 by 10 = 4861 by 2520.
        Run x = Towns.laid("p0,2;p0,3;p0,4;p0,5;p0,6;p0,7;p0,8;p0,9;p0,10;s0,9,0;");
        chance(x, 0, -1, 1260, 4861);
        chance(x, 8, -1, 252, 4861);
        chance(x, -1, -1, 252, 4861);
    }

    // "Of a HOUSE alone likewise (of its PLACES)."
    private static void lotsOfAHouseAlone() {
        Run x = Towns.laid("p0,1;p5,2;p0,3;p5,4;p3,5;s0,9,0;");
        chance(x, 0, 0, 3, 4);
        chance(x, 2, 0, 1, 4);
        chance(x, -1, 0, 3, 40);
        chance(x, 1, 5, 2, 3);
        chance(x, 3, 5, 1, 3);
        chance(x, -1, 5, 2, 15);
        chance(x, 4, 3, 1, 1);
        chance(x, -1, 3, 1, 2);
        // 1 + 1 by 2 + 1 by 3 + 1 by 4 + 1 by 5 = 137 by 60.
        chance(x, 4, -1, 12, 137);
        chance(x, -1, -1, 6, 137);
    }

    // lots: "PLACE p (p = -1: that she sees it)"
    private static void lotsPlace() {
        for (int n = 1; n <= 9; n++) {
            Run x = Towns.laid("p0,5;".repeat(n) + "s0,9,0;");
            chance(x, n - 1, -1, 1, n);
            chance(x, -1, -1, 1, 2 * n);
            for (int p : new int[] {-2, n, n + 1, MIN, MAX}) {
                due.refused("lots(" + p + ", -1, 0) of " + n, x, y -> y.lots(p, -1, 0), BAD);
                due.refused("lots(" + p + ", 0, 1) of " + n, x, y -> y.lots(p, 0, 1), BAD);
            }
        }
    }

    // lots: "of all (house = -1) or of a HOUSE's"; "HOUSES 0 to 5"
    private static void lotsHouse() {
        Run x = Towns.laid("p0,1;p1,2;p2,3;p3,4;p4,5;p5,6;s0,9,0;");
        for (int house = 0; house <= 5; house++) {
            chance(x, house, house, 1, 1);
        }
        chance(x, -1, 5, 3, 5);
        for (int house : new int[] {-2, 6, 7, 9, MIN, MAX}) {
            due.refused("lots(0, " + house + ", 0)", x, y -> y.lots(0, house, 0), BAD);
            due.refused("lots(-1, " + house + ", 1)", x, y -> y.lots(-1, house, 1), BAD);
        }
    }

    // lots: "above (part = 0), below (1)"
    private static void lotsPart() {
        Run x = Towns.laid("p0,5;p1,5;s0,9,0;");
        for (int part : new int[] {-1, 2, MIN, MAX}) {
            due.refused("lots(0, -1, " + part + ")", x, y -> y.lots(0, -1, part), BAD);
            due.refused("lots(-1, 1, " + part + ")", x, y -> y.lots(-1, 1, part), BAD);
        }
    }

    // lots: "NO: there is no such PLACE in the HOUSE, it has none."
    private static void lotsNo() {
        Run x = Towns.laid("p0,5;p5,5;s0,9,0;");
        chance(x, 0, 0, 1, 1);
        chance(x, 1, 5, 1, 1);
        for (int part = 0; part <= 1; part++) {
            int asked = part;
            due.refused("place 0 is not in house 5", x, y -> y.lots(0, 5, asked), NO);
            due.refused("place 1 is not in house 0", x, y -> y.lots(1, 0, asked), NO);
            due.refused("place 1 is not in house 4", x, y -> y.lots(1, 4, asked), NO);
            due.refused("house 1 has none", x, y -> y.lots(-1, 1, asked), NO);
            due.refused("house 4 has none", x, y -> y.lots(-1, 4, asked), NO);
        }
    }

    private static void lotsBadAheadOfNo() {
        Run x = Towns.laid("p0,5;p5,5;s0,9,0;");
        due.refused("BAD place, empty house", x, y -> y.lots(2, 3, 0), BAD);
        due.refused("BAD place -2, empty house", x, y -> y.lots(-2, 3, 0), BAD);
        due.refused("BAD part, empty house", x, y -> y.lots(-1, 3, 2), BAD);
        due.refused("BAD part, not in the house", x, y -> y.lots(0, 5, -1), BAD);
        due.refused("BAD house", x, y -> y.lots(0, 6, 0), BAD);
    }

    /** On which day woman i, looking at place p on day 10 + p, leaves in year z. */
    private static int drawnDay(int z, int i, int places) {
        StringBuilder town = new StringBuilder("p0,5;".repeat(places));
        for (int k = 0; k < 5; k++) {
            town.append("s0,").append(1 + 3 * k).append(",0;");
        }
        for (int p = 0; p < places; p++) {
            town.append('l').append(i).append(',').append(p).append(',').append(10 + p).append(';');
        }
        return Towns.laid(town.toString()).year(z, 1);
    }

    // "((x times x) modulo 65521) modulo how many there are at first, x being 7919 z, 6151 i and 1 together"
    private static void yearOfZ() {
        // (x times x) modulo 65521, worked out apart, is for z 0: 1, 41487, 10299, 37479, 57506; for z 1: 22803, 54100,
        // 12723, 29714, 39552; for z 9998: 8482, 65501, 49846, 27038, 62598; for z 9999: 51303, 32612, 6768, 39292, 64663.
        int[] years = {0, 1, 9998, 9999};
        int[][] ofNine = {{1, 6, 3, 3, 5}, {6, 1, 6, 5, 6}, {4, 8, 4, 2, 3}, {3, 5, 0, 7, 7}};
        for (int k = 0; k < years.length; k++) {
            for (int i = 0; i < 5; i++) {
                due.is("year " + years[k] + ", skin " + i, drawnDay(years[k], i, 9), 10 + ofNine[k][i]);
            }
        }
    }

    private static void yearModuloHowManyThereAre() {
        int[] first = {0, 1, 1, 1, 1, 1, 1, 1, 1};
        int[] lastOfZ9999 = {0, 1, 0, 3, 3, 3, 0, 7, 3};
        int[] fourthOfZ9999 = {0, 1, 1, 3, 3, 1, 4, 7, 7};
        for (int n = 1; n <= 9; n++) {
            due.is("year 0, skin 0 of " + n, drawnDay(0, 0, n), 10 + first[n - 1]);
            due.is("year 9999, skin 0 of " + n, drawnDay(9999, 0, n), 10 + lastOfZ9999[n - 1]);
            due.is("year 9999, skin 4 of " + n, drawnDay(9999, 4, n), 10 + fourthOfZ9999[n - 1]);
        }
    }

    private static void year(String town, int many, int last) {
        Run x = Towns.laid(town);
        due.are("year of " + town, new int[] {x.year(0, 0), x.year(0, 1), x.year(9999, 0), x.year(9999, 1)}, many, last, many, last);
    }

    // "how many WOMEN go by day 60 (their TIDE to 60 as well)"
    private static void yearByDay60() {
        year("p0,5;s0,9,0;l0,0,60;", 1, 60);
        year("p0,5;s0,9,0;l0,0,60;t20;", 1, 60);
        year("p0,5;s0,9,0;l0,0,41;t20;", 1, 60);
        year("p0,5;s0,9,0;l0,0,40;t20;", 1, 40);
        year("p0,5;s0,9,0;l0,0,60;t7;", 0, NONE);
        year("p0,5;s0,9,0;l0,0,57;t7;", 0, NONE);
        year("p0,5;s0,9,0;l0,0,56;t7;", 1, 56);
        year("p0,5;s0,9,0;l0,0,58;t19;", 0, NONE);
        year("p0,5;s0,9,0;l0,0,57;t19;", 1, 57);
        year("p0,5;s0,9,0;l0,0,1;t1;", 1, 1);
    }

    // "on which day the last of these goes"
    private static void yearLastOfThese() {
        year("p0,5;s0,9,0;s0,9,0;l0,0,1;l1,0,60;", 2, 60);
        year("p0,5;s0,9,0;s0,9,0;l1,0,1;l0,0,60;", 2, 60);
        year("p0,5;s0,9,0;s0,9,0;l0,0,50;l1,0,60;t7;", 1, 56);
        year("p0,5;s0,9,0;s0,9,0;l1,0,50;l0,0,60;t7;", 1, 56);
        year("p0,5;" + "s0,9,0;".repeat(5) + "l0,0,1;l1,0,5;l2,0,4;l3,0,3;l4,0,2;", 5, 5);
        year("p0,5;" + "s0,9,0;".repeat(5) + "l0,0,1;l1,0,2;l2,0,3;l3,0,4;l4,0,5;t6;", 5, 6);
    }

    // "none" (the day, if nobody goes)
    private static void yearOfNone() {
        year("p0,5;s0,9,0;", 0, NONE);
        year("p0,5;s0,9,0;w1;l0,0,60;", 0, NONE);
        year("p0,5;s0,9,0;w1;l0,0,2;", 1, 2);
    }

    // "(0 to 9999; nothing changes by it)"
    private static void yearChangesNothing() {
        Run x = Towns.laid(NINE + "s8,9,1;s4,9,2;l0,0,5;l1,3,9;");
        x.hide(0, 7);
        String before = x.whole();
        for (int z : new int[] {0, 1, 5000, 9998, 9999}) {
            x.year(z, 0);
            x.year(z, 1);
        }
        due.same("years change nothing", x.whole(), before);
        // All but where skins are is as it stands: looks told and undone count.
        Run y = Towns.laid("p0,5;s0,9,0;");
        due.are("nobody looks", new int[] {y.year(9, 0), y.year(9, 1)}, 0, NONE);
        y.look(0, 0, 8);
        due.are("she looks", new int[] {y.year(9, 0), y.year(9, 1)}, 1, 8);
        y.undo();
        due.are("undone", new int[] {y.year(9, 0), y.year(9, 1)}, 0, NONE);
    }

    // year: "z (0 to 9999)", "how many go (what = 0), the last day (1; NONE). BAD."
    private static void year() {
        Run x = Towns.laid("p0,5;s0,9,0;");
        due.are("the first and the last", new int[] {x.year(0, 0), x.year(9999, 0), x.year(0, 1), x.year(9999, 1)}, 0, 0, NONE, NONE);
        for (int z : new int[] {-1, 10000, 10001, 65521, MIN, MAX}) {
            due.refused("year(" + z + ", 0)", x, y -> y.year(z, 0), BAD);
            due.refused("year(" + z + ", 1)", x, y -> y.year(z, 1), BAD);
        }
        for (int what : new int[] {-1, 2, MIN, MAX}) {
            due.refused("year(0, " + what + ")", x, y -> y.year(0, what), BAD);
            due.refused("year(9999, " + what + ")", x, y -> y.year(9999, what), BAD);
        }
    }

    // "KEPT are .. : 2 at most"; keep: "FULL"
    private static void twoKept() {
        Run x = Towns.laid(NINE + "s0,9,0;");
        due.is("the first", x.keep(), 1);
        x.hide(0, 1);
        due.is("the second", x.keep(), 2);
        x.hide(0, 2);
        due.refused("the third", x, Run::keep, FULL);
        due.refused("the third again", x, Run::keep, FULL);
        due.are("the second, not the third", new int[] {x.back(), x.skin(0, 0)}, 1, 1);
        due.is("there is room for one", x.keep(), 2);
        due.refused("but for no more", x, Run::keep, FULL);
        due.are("back twice", new int[] {x.back(), x.skin(0, 0), x.back(), x.skin(0, 0)}, 1, 1, 0, 0);
        due.are("room for two", new int[] {x.keep(), x.keep(), x.keep()}, 1, 2, FULL);
    }

    // "(where SKINS are at first, looks"
    private static void keptAreHidingsAndLooks() {
        Run x = Towns.laid(NINE + "s0,9,0;".repeat(4) + "s8,19,2;l4,8,1;");
        String first = x.town();
        x.keep();
        for (int i = 0; i < 5; i++) {
            x.hide(i, 8 - i);
        }
        for (int k = 2; k <= 9; k++) {
            x.look(k % 4, k - 1, k);
        }
        String second = x.town();
        due.is("keep nine looks", x.keep(), 2);
        for (int k = 0; k < 8; k++) {
            x.undo();
        }
        x.look(4, 0, 60);
        x.hide(4, 0);
        due.is("back to nine looks", x.back(), 1);
        due.same("as kept", x.town(), second);
        due.refused("a tenth look", x, y -> y.look(0, 0, 1), FULL);
        due.is("back to one look", x.back(), 0);
        due.same("as kept first", x.town(), first);
        due.is("a second look", x.look(0, 0, 1), 2);
    }

    // Of each look the woman, the place and the day, though another one was told in its stead.
    private static void keptIsEachOfNineLooks() {
        int[][] others = {{1, 0, 5}, {0, 1, 5}, {0, 0, 6}};
        for (int ahead = 0; ahead <= 8; ahead++) {
            for (int[] other : others) {
                Run x = Towns.laid("p0,5;p0,5;s0,9,0;s0,9,0;" + "l0,1,1;".repeat(ahead));
                x.look(0, 0, 5);
                x.keep();
                String kept = x.town();
                x.undo();
                x.look(other[0], other[1], other[2]);
                due.are("back", new int[] {x.back(), x.count(2), x.woman(0, 1), x.woman(1, 1)}, 0, ahead + 1, 5, NONE);
                due.same("as kept", x.town(), kept);
            }
        }
    }

    // ".. not SEEN, THE TEXT)"
    private static void keptAreNotSeenNorTheText() {
        Run x = Towns.laid("p0,5;p0,5;s0,9,0;");
        x.seen(0, 1, 1, true);
        x.keep();
        x.forget();
        x.seen(0, 0, 1, true);
        x.seen(0, 0, 2, true);
        x.wipe();
        x.write(3, 0x77313BL);
        due.is("back", x.back(), 0);
        due.are("SEEN is as it was ahead of back", new int[] {x.count(3), x.starts(0)}, 2, 1);
        due.are("and THE TEXT", new int[] {x.count(6), x.fault(), x.lay()}, 3, NONE, NO);
    }

    // back: "As KEPT last (it is KEPT no more then): how many are left"
    private static void backLastFirst() {
        Run x = Towns.laid(NINE + "s0,9,0;");
        x.hide(0, 3);
        x.keep();
        x.hide(0, 5);
        x.keep();
        x.hide(0, 7);
        due.are("the last kept", new int[] {x.back(), x.skin(0, 0), x.count(5)}, 1, 5, 1);
        due.are("the one ahead", new int[] {x.back(), x.skin(0, 0), x.count(5)}, 0, 3, 0);
        due.refused("no more", x, Run::back, NO);
    }

    // What is done behind back is not done to what is kept yet.
    private static void backTwiceToTheSame() {
        Run x = Towns.laid(NINE + "s0,9,0;s8,9,0;");
        x.hide(0, 4);
        x.look(0, 3, 3);
        String kept = x.town();
        x.keep();
        x.keep();
        due.is("back", x.back(), 1);
        x.hide(0, 3);
        x.hide(1, 3);
        x.look(1, 3, 2);
        due.is("back again", x.back(), 0);
        due.same("as kept", x.town(), kept);
    }

    // back: "nothing is UNDONE then"
    private static void backThenNothingIsUndone() {
        Run x = Towns.laid(NINE + "s0,9,0;");
        for (int k = 1; k <= 8; k++) {
            x.hide(0, k);
        }
        x.keep();
        due.is("keep leaves what can be undone", x.count(4), 8);
        due.are("back", new int[] {x.back(), x.count(4)}, 0, 0);
        due.refused("undo", x, Run::undo, NO);
        due.are("hide and undo", new int[] {x.hide(0, 2), x.count(4), x.undo(), x.skin(0, 0)}, 8, 1, 0, 8);
        due.refused("undo no more", x, Run::undo, NO);
    }

    // back: "NO"
    private static void backOfNothing() {
        Run x = Towns.laid("p0,5;p0,5;s0,9,0;");
        x.hide(0, 1);
        due.refused("nothing was kept", x, Run::back, NO);
        due.is("what can be undone stays", x.count(4), 1);
        x.keep();
        due.is("back", x.back(), 0);
        x.hide(0, 0);
        due.refused("it is kept no more", x, Run::back, NO);
        due.are("what can be undone stays then", new int[] {x.count(4), x.skin(0, 0)}, 1, 0);
    }

    private static int[] counts(Run x) {
        int[] counts = new int[7];
        for (int what = 0; what < 7; what++) {
            counts[what] = x.count(what);
        }
        return counts;
    }

    private static void countAtTheLeast() {
        Run x = Towns.laid("p0,5;s0,9,0;");
        x.wipe();
        due.are("the least", counts(x), 1, 1, 0, 0, 0, 0, 0);
        x.write(1, 0L);
        x.seen(0, 0, 1, true);
        x.look(0, 0, 1);
        x.keep();
        due.are("one of each", counts(x), 1, 1, 1, 1, 1, 1, 1);
        due.are("fewer again", new int[] {x.wipe(), x.forget(), x.undo(), x.back()}, 1, 1, 0, 0);
        due.are("looks are as kept", counts(x), 1, 1, 1, 0, 0, 0, 0);
    }

    private static void countAtTheMost() {
        Run x = Towns.laid(NINE + "s0,9,0;".repeat(5) + "l0,0,1;" + "w1;".repeat(71));
        for (int k = 1; k <= 8; k++) {
            x.look(0, 0, 1);
            x.seen(0, 0, 1, true);
        }
        x.keep();
        x.keep();
        due.are("the most", counts(x), 9, 5, 9, 8, 8, 2, 300);
        due.are("no more", new int[] {x.look(0, 0, 1), x.seen(0, 0, 1, true), x.keep(), x.write(1, 0L)}, FULL, FULL, FULL, FULL);
        due.are("the most yet", counts(x), 9, 5, 9, 8, 8, 2, 300);
    }

    // count: "0 PLACES, 1 SKINS, 2 looks, 3 SEEN, 4 that can be UNDONE, 5 KEPT, 6 bytes of THE TEXT. BAD."
    private static void count() {
        Run x = new Run();
        due.are("the first and the last", new int[] {x.count(0), x.count(6)}, 3, 0);
        for (int what : new int[] {-1, 7, 8, MIN, MAX}) {
            due.refused("count(" + what + ")", x, y -> y.count(what), BAD);
        }
    }
}
