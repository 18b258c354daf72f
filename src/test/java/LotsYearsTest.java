/** Promises 22 to 26: lots, years, what is kept, how many. */
final class LotsYearsTest {
    private static final Due due = new Due("LotsYearsTest");
    private static final int BAD = Due.BAD, NO = Due.NO, FULL = Due.FULL, NONE = Due.NONE;

    public static void main(String[] args) {
        lots();
        lotsOfAHouse();
        lotsWrong();
        year();
        yearWrong();
        keep();
        back();
        count();
        due.end();
    }

    private static void chance(Run x, int p, int house, int above, int below) {
        due.is("lots(" + p + ", " + house + ", 0)", x.lots(p, house, 0), above);
        due.is("lots(" + p + ", " + house + ", 1)", x.lots(p, house, 1), below);
    }

    private static void lots() {
        Run x = new Run();
        chance(x, 0, -1, 2, 9);
        chance(x, 1, -1, 2, 9);
        chance(x, 2, -1, 5, 9);
        chance(x, -1, -1, 1, 9);
        Run alike = Towns.laid("p0,10;p1,10;p2,10;p3,10;s0,1,0;");
        chance(alike, 3, -1, 1, 4);
        chance(alike, -1, -1, 1, 4);
        Run one = Towns.laid("p0,10;s0,1,0;");
        chance(one, 0, -1, 1, 1);
        chance(one, -1, -1, 1, 1);
        Run dim = Towns.laid("p0,1;s0,1,0;");
        chance(dim, 0, -1, 1, 1);
        chance(dim, -1, -1, 1, 10);
        // 1/7 + 1/8 + 1/9 = 191/504.
        Run odd = Towns.laid("p0,7;p1,8;p2,9;s0,1,0;");
        chance(odd, 0, -1, 72, 191);
        chance(odd, 1, -1, 63, 191);
        chance(odd, 2, -1, 56, 191);
        chance(odd, -1, -1, 252, 955);
        Run nine = Towns.laid("p0,1;p0,2;p0,3;p0,4;p0,5;p0,6;p0,7;p0,8;p0,9;s0,1,0;");
        chance(nine, 0, -1, 2520, 7129);
        chance(nine, -1, -1, 252, 7129);
    }

    private static void lotsOfAHouse() {
        Run x = new Run();
        chance(x, 0, 0, 1, 2);
        chance(x, -1, 0, 1, 4);
        chance(x, 2, 1, 1, 1);
        chance(x, -1, 1, 1, 5);
        Run mixed = Towns.laid("p5,3;p0,9;p5,6;p0,9;s0,1,0;");
        chance(mixed, 0, 5, 2, 3);
        chance(mixed, 2, 5, 1, 3);
        chance(mixed, -1, 5, 1, 5);
        chance(mixed, 1, 0, 1, 2);
        chance(mixed, -1, 0, 9, 20);
    }

    private static void lotsWrong() {
        Run x = new Run();
        int[] wrongPlaces = {-2, 3, 9, Integer.MIN_VALUE, Integer.MAX_VALUE};
        for (int p : wrongPlaces) {
            due.is("lots(" + p + ", -1, 0)", x.lots(p, -1, 0), BAD);
            due.is("lots(" + p + ", 0, 1)", x.lots(p, 0, 1), BAD);
            due.is("lots(" + p + ", 4, 1)", x.lots(p, 4, 1), BAD);
        }
        int[] wrongHouses = {-2, 6, Integer.MIN_VALUE, Integer.MAX_VALUE};
        for (int house : wrongHouses) {
            due.is("lots(0, " + house + ", 0)", x.lots(0, house, 0), BAD);
            due.is("lots(-1, " + house + ", 0)", x.lots(-1, house, 0), BAD);
        }
        due.is("lots(0, 0, -1)", x.lots(0, 0, -1), BAD);
        due.is("lots(0, 0, 2)", x.lots(0, 0, 2), BAD);
        due.is("lots(2, 0, 2)", x.lots(2, 0, 2), BAD);
        due.is("lots(2, 0, 0)", x.lots(2, 0, 0), NO);
        due.is("lots(0, 1, 1)", x.lots(0, 1, 1), NO);
        due.is("lots(0, 5, 1)", x.lots(0, 5, 1), NO);
        due.is("lots(-1, 5, 0)", x.lots(-1, 5, 0), NO);
        due.is("lots(-1, 2, 1)", x.lots(-1, 2, 1), NO);
    }

    /** Where z draws skin i among so many places, by big numbers. */
    private static int drawn(int z, int i, int places) {
        java.math.BigInteger x = java.math.BigInteger.valueOf(7919).multiply(java.math.BigInteger.valueOf(z))
                .add(java.math.BigInteger.valueOf(6151).multiply(java.math.BigInteger.valueOf(i)))
                .add(java.math.BigInteger.ONE);
        return x.multiply(x).mod(java.math.BigInteger.valueOf(65521)).mod(java.math.BigInteger.valueOf(places)).intValue();
    }

    private static void year() {
        // z 0: skin 0 has x 1, place 1 modulo 3; skin 1 has x 6152, 6152 x 6152 = 577 x 65521 + 41487, place 0.
        Run x = Towns.laid("p0,5;p0,5;p0,5;s0,9,0;s0,3,0;t4;l0,1,5;l1,0,50;l0,2,1;l1,2,2;");
        due.is("by hand", x.year(0, 0), 2);
        due.is("by hand, the last day", x.year(0, 1), 52);
        due.is("the town itself", x.woman(0, 0), NONE);
        int[] looked = {5, 17, 33};
        Run three = Towns.laid("p0,5;p0,5;p0,5;s0,9,0;l0,0,5;l0,1,17;l0,2,33;");
        Run second = Towns.laid("p0,5;p0,5;p0,5;s0,9,0;s0,3,0;l1,0,5;l1,1,17;l1,2,33;");
        for (int z : new int[] {0, 1, 2, 3, 8, 77, 500, 8273, 9998, 9999}) {
            due.is("year(" + z + ", 0)", three.year(z, 0), 1);
            due.is("year(" + z + ", 1)", three.year(z, 1), looked[drawn(z, 0, 3)]);
            due.is("year(" + z + ", 1) of skin 1", second.year(z, 1), looked[drawn(z, 1, 3)]);
        }
        Run idle = Towns.laid("p0,5;s0,9,0;");
        due.is("nobody goes", idle.year(4, 0), 0);
        due.is("nobody goes last", idle.year(4, 1), NONE);
        Run late = Towns.laid("p0,5;s0,9,0;s0,1,0;t7;l0,0,57;l1,0,56;");
        due.is("only who goes by day 60", late.year(4, 0), 1);
        due.is("the last of these", late.year(4, 1), 56);
        Run edge = Towns.laid("p0,5;s0,9,0;t20;l0,0,41;");
        due.is("on day 60 yet", edge.year(9, 0), 1);
        due.is("on day 60", edge.year(9, 1), 60);
    }

    private static void yearWrong() {
        Run x = new Run();
        for (int z : new int[] {-1, 10000, Integer.MIN_VALUE, Integer.MAX_VALUE}) {
            due.is("year(" + z + ", 0)", x.year(z, 0), BAD);
            due.is("year(" + z + ", 1)", x.year(z, 1), BAD);
        }
        due.is("year(0, -1)", x.year(0, -1), BAD);
        due.is("year(0, 2)", x.year(0, 2), BAD);
        String before = x.whole();
        for (int z = 0; z < 20; z++) {
            x.year(z * 503, z % 2);
        }
        due.same("year changes nothing", x.whole(), before);
    }

    private static void keep() {
        Run x = new Run();
        due.is("keep", x.keep(), 1);
        due.is("keep the same", x.keep(), 2);
        due.is("keep too many", x.keep(), FULL);
        due.is("count", x.count(5), 2);
        due.is("back", x.back(), 1);
        due.is("keep again", x.keep(), 2);
        x.hide(0, 1);
        x.keep();
        due.is("FULL keeps nothing", x.back(), 1);
        due.is("where it was kept", x.skin(0, 0), 0);
        Run y = new Run();
        y.hide(0, 1);
        y.keep();
        due.is("what can be undone stays", y.undo(), 0);
        due.is("keep is not undone", y.count(5), 1);
        due.is("and changes nothing", y.skin(0, 0), 0);
    }

    private static void back() {
        Run x = new Run();
        due.is("back of nothing", x.back(), NO);
        String first = x.whole();
        x.keep();
        x.hide(0, 2);
        x.look(0, 2, 9);
        x.hide(1, 0);
        String second = x.town();
        x.keep();
        x.hide(0, 1);
        x.look(1, 1, 1);
        x.undo();
        x.undo();
        x.hide(1, 1);
        x.seen(0, 0, 1, true);
        Towns.written(x, "p0");
        due.is("back", x.back(), 1);
        due.is("where 0 is", x.skin(0, 0), 2);
        due.is("where 1 is", x.skin(1, 0), 0);
        due.is("looks", x.count(2), 3);
        due.is("who finds", x.woman(0, 1), 9);
        due.is("nothing is undone", x.undo(), NO);
        due.is("none can be undone", x.count(4), 0);
        due.is("what is seen stays", x.forget(), 1);
        due.is("the text stays", x.wipe(), 2);
        due.same("as it was kept", x.town(), second);
        due.is("back again", x.back(), 0);
        due.same("as at first", x.whole(), first);
        due.is("back no more", x.back(), NO);
        x.keep();
        x.undo();
        due.is("look behind", x.look(0, 0, 3), 3);
        x.look(0, 0, 4);
        x.back();
        due.is("looks as kept", x.count(2), 2);
        backToOtherLooks();
    }

    private static void backToOtherLooks() {
        Run x = Towns.laid("p0,5;p0,5;s0,1,0;s0,9,0;");
        x.look(1, 0, 5);
        x.keep();
        String kept = x.town();
        x.undo();
        x.look(0, 1, 7);
        x.hide(0, 1);
        due.is("another look in its stead", x.woman(0, 1), 7);
        due.is("back", x.back(), 0);
        due.are("who looked", new int[] {x.woman(0, 1), x.woman(1, 1), x.woman(1, 0)}, NONE, 5, 1);
        due.same("as it was kept", x.town(), kept);
        Run y = Towns.laid("p0,5;p0,5;s0,5,0;");
        int[][] others = {{0, 1, 5}, {0, 0, 6}};
        for (int[] other : others) {
            y.look(0, 0, 5);
            y.keep();
            y.undo();
            y.look(other[0], other[1], other[2]);
            y.back();
            due.is("the look that was kept", y.woman(0, 1), 5);
            y.lay();
        }
    }

    private static void count() {
        Run x = Towns.laid("p0,5;p0,5;p0,5;p1,1;s0,1,0;s1,5,0;s1,9,0;l0,0,1;");
        due.are("counts", counts(x), 4, 3, 1, 0, 0, 0, 48);
        x.seen(0, 0, 1, true);
        x.seen(1, 0, 1, true);
        x.look(0, 0, 1);
        x.hide(0, 0);
        x.hide(2, 3);
        x.keep();
        x.write(1, 'p');
        due.are("counts then", counts(x), 4, 3, 2, 2, 3, 1, 49);
        for (int what : new int[] {-1, 7, 8, Integer.MIN_VALUE, Integer.MAX_VALUE}) {
            due.is("count(" + what + ")", x.count(what), BAD);
        }
    }

    private static int[] counts(Run x) {
        int[] counts = new int[7];
        for (int what = 0; what < 7; what++) {
            counts[what] = x.count(what);
        }
        return counts;
    }
}
