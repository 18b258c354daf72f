/** Promises 1 to 7: a new object, the text, the town that is laid. */
final class TownsTest {
    private static final Due due = new Due("TownsTest");
    private static final int BAD = Due.BAD, NO = Due.NO, FULL = Due.FULL, NONE = Due.NONE;

    public static void main(String[] args) {
        aNewObject();
        write();
        wipe();
        faultInForm();
        faultInNumbers();
        faultInHowMany();
        lay();
        layForgets();
        place();
        skin();
        due.end();
    }

    private static void aNewObject() {
        Run x = new Run();
        due.are("count", new int[] {x.count(0), x.count(1), x.count(2), x.count(3), x.count(4), x.count(5), x.count(6)},
                3, 2, 2, 0, 0, 0, 0);
        due.are("houses", new int[] {x.place(0, 0), x.place(1, 0), x.place(2, 0)}, 0, 0, 1);
        due.are("views", new int[] {x.place(0, 1), x.place(1, 1), x.place(2, 1)}, 5, 5, 2);
        due.are("skin 0", new int[] {x.skin(0, 0), x.skin(0, 1), x.skin(0, 2)}, 0, 6, 0);
        due.are("skin 1", new int[] {x.skin(1, 0), x.skin(1, 1), x.skin(1, 2)}, 2, 6, 1);
        due.are("course of 0", Towns.course(x, 0, 4), 0, 0, 0, 0);
        due.are("course of 1", Towns.course(x, 1, 4), 2, 0, 1, 2);
        due.is("fault of the empty text", x.fault(), NONE);
        due.is("lay of the empty text", x.lay(), NO);
        due.is("the town stands", x.count(1), 2);
        due.is("undo", x.undo(), NO);
        due.is("back", x.back(), NO);
        // The first looks are there: skin 0 is put where each of them is.
        x.hide(0, 1);
        due.is("found by the first look", x.woman(0, 1), 1);
        x.hide(0, 2);
        due.is("found by the second look", x.woman(1, 1), 2);
        due.is("no tide to wait for", x.woman(1, 2), 2);
        due.is("no smoke", x.size(1, 60), 6);
    }

    private static void write() {
        Run x = new Run();
        int[] wrong = {0, -1, 9, 10, 300, Integer.MIN_VALUE, Integer.MAX_VALUE};
        for (int n : wrong) {
            due.is("write(" + n + ")", x.write(n, 0x3B), BAD);
        }
        due.is("nothing was written", x.count(6), 0);
        // Only the lowest bytes count, the highest of these first.
        due.is("write p0,5", x.write(4, 0x7777777770302C35L), 4);
        due.is("write ;", x.write(1, 0x3030303030303B3BL), 5);
        due.is("write s0,", x.write(3, 0x73302CL), 8);
        due.is("write 6,0;", x.write(4, 0x362C303BL), 12);
        due.is("fault", x.fault(), NONE);
        due.is("lay", x.lay(), 1);
        due.is("write all ones", x.write(8, -1L), 20);
        due.is("fault behind", x.fault(), 12);
        due.is("wipe", x.wipe(), 20);
        for (int k = 1; k <= 37; k++) {
            due.is("write eight", x.write(8, 0x77313B77323B7733L), 8 * k);
        }
        due.is("write past the end", x.write(5, 0L), FULL);
        due.is("nothing of it was written", x.count(6), 296);
        due.is("BAD ahead of FULL", x.write(9, 0L), BAD);
        due.is("write to the end", x.write(4, 0x3B77343BL), 300);
        due.is("write one more", x.write(1, 0x3BL), FULL);
        due.is("write none", x.write(0, 0x3BL), BAD);
        due.is("how long", x.count(6), 300);
    }

    private static void wipe() {
        Run x = new Run();
        due.is("wipe of none", x.wipe(), 0);
        Towns.written(x, "p0,5;x");
        due.is("fault ahead of wipe", x.fault(), 5);
        due.is("wipe", x.wipe(), 6);
        due.is("wipe again", x.wipe(), 0);
        due.is("fault of none", x.fault(), NONE);
        due.is("how long", x.count(6), 0);
        due.is("the town stands", x.count(0), 3);
        due.is("write anew", Towns.written(x, "p1,1;s0,1,0;"), 12);
        due.is("lay", x.lay(), 1);
    }

    private static void fault(String text, int want) {
        due.is("fault of " + text, Towns.faultOf(text), want);
    }

    private static void faultInForm() {
        fault("", NONE);
        fault("p0,5;", NONE);
        fault("w0;t1;", NONE);
        fault("p00,05;s08,01,03;l00,08,01;w00;t01;", NONE);
        fault("s8,20,3;l0,8,60;w60;t20;p5,10;", NONE);
        fault(";", 0);
        fault("p", 0);
        fault("p0", 0);
        fault("p0,", 0);
        fault("p0,5", 0);
        fault("p0;", 0);
        fault("p0,5,", 0);
        fault("p0,5,1;", 0);
        fault("p,5;", 0);
        fault("p0,;", 0);
        fault("p 0,5;", 0);
        fault("p0,5 ;", 0);
        fault("p000,5;", 0);
        fault("p0,005;", 0);
        fault("p-0,5;", 0);
        fault("p0;5;", 0);
        fault("p0,5;;", 5);
        fault("p0,5; p0,5;", 5);
        fault("p0,5;P0,5;", 5);
        fault("p0,5;q0,5;", 5);
        fault("p0,5;05;", 5);
        fault("p0,5;s0,1;", 5);
        fault("p0,5;s0,1,0,0;", 5);
        fault("s0,1,0;l0,1;", 7);
        fault("s0,1,0;l0,1,1,1;", 7);
        fault("w;", 0);
        fault("w1,2;", 0);
        fault("w1", 0);
        fault("t1,;", 0);
        fault("t;w;", 0);
        fault("w1;w1;w1", 6);
        fault("p0,5;\u00b0", 5);
        fault("p\u00b0,5;", 0);
        fault("p0,5\u00bb", 0);
        fault("\u0000", 0);
        fault("p0,5;p0,a;p0,5;", 5);
        fault("p0/5;", 0);
        fault("p0,:;", 0);
    }

    private static void faultInNumbers() {
        fault("p5,1;", NONE);
        fault("p6,1;", 0);
        fault("p0,0;", 0);
        fault("p0,10;", NONE);
        fault("p0,11;", 0);
        fault("s8,1,0;", NONE);
        fault("s9,1,0;", 0);
        fault("s10,1,0;", 0);
        fault("s0,0,0;", 0);
        fault("s0,20,0;", NONE);
        fault("s0,21,0;", 0);
        fault("s0,1,3;", NONE);
        fault("s0,1,4;", 0);
        fault("l0,0,1;", 0);
        fault("l0,0,1;s0,1,0;", 0);
        fault("s0,1,0;l0,0,1;", NONE);
        fault("s0,1,0;l1,0,1;", 7);
        fault("s0,1,0;l1,0,1;s0,1,0;", 7);
        fault("s0,1,0;s0,1,0;l1,0,1;", NONE);
        fault("s0,1,0;l0,8,1;", NONE);
        fault("s0,1,0;l0,9,1;", 7);
        fault("s0,1,0;l0,0,0;", 7);
        fault("s0,1,0;l0,0,60;", NONE);
        fault("s0,1,0;l0,0,61;", 7);
        fault("w60;", NONE);
        fault("w61;", 0);
        fault("w1;w61;w1;", 3);
        fault("t0;", 0);
        fault("t20;", NONE);
        fault("t21;", 0);
        fault("t5;t0;", 3);
    }

    private static void faultInHowMany() {
        fault("p0,5;".repeat(9), NONE);
        fault("p0,5;".repeat(10), 45);
        fault("s0,1,0;".repeat(5), NONE);
        fault("s0,1,0;".repeat(6), 35);
        fault("s0,1,0;" + "l0,0,1;".repeat(9), NONE);
        fault("s0,1,0;" + "l0,0,1;".repeat(10), 70);
        fault("w1;t1;".repeat(50), NONE);
        fault("p0,5;".repeat(9) + "w1;" + "p0,5;" + "w99;", 48);
    }

    private static void lay() {
        due.is("lay without a skin", Towns.layOf("p0,5;"), NO);
        due.is("lay without a place", Towns.layOf("s0,1,0;"), NO);
        due.is("lay of the least", Towns.layOf("p0,5;s0,1,0;"), 1);
        due.is("lay with a fault", Towns.layOf("p0,5;s0,1,0;w"), NO);
        due.is("lay, the place told behind", Towns.layOf("s1,1,0;p0,5;p0,5;"), 1);
        due.is("lay of a skin where no place is", Towns.layOf("p0,5;s1,1,0;"), NO);
        due.is("lay of a look where no place is", Towns.layOf("p0,5;s0,1,0;l0,1,1;"), NO);
        due.is("lay of a look at a place told behind", Towns.layOf("p0,5;s0,1,0;l0,1,1;p0,5;"), 1);
        due.is("lay of five", Towns.layOf("p0,5;".repeat(9) + "s8,1,0;".repeat(5) + "l4,8,60;".repeat(9)), 5);

        Run x = Towns.laid("p1,1;s0,1,0;w7;t7;p2,2;w2;t3;l0,1,2;");
        due.is("the text stays", x.count(6), 36);
        due.is("places", x.count(0), 2);
        due.is("looks", x.count(2), 1);
        x.hide(0, 1);
        due.is("lay anew", x.lay(), 1);
        due.is("where it was laid", x.skin(0, 0), 0);
        x.wipe();
        Towns.written(x, "p0,1;p0,1;s1,20,0;w5;w2;t9;t20;l0,1,40;");
        due.is("lay another", x.lay(), 1);
        due.are("the last smoke counts", Towns.sizes(x, 0, 1, 2, 3, 4, 40), 20, 19, 19, 18, 1);
        x.wipe();
        Towns.written(x, "p0,1;p0,1;s1,20,0;w5;w0;t9;t20;l0,1,5;");
        x.lay();
        due.is("the last smoke is none", x.size(0, 5), 20);
        due.is("the last tide counts", x.woman(0, 2), 20);
        x.wipe();
        Towns.written(x, "p0,1;s0,20,0;l0,0,5;");
        x.lay();
        due.is("no smoke of the town before", x.size(0, 5), 20);
        due.is("no tide of the town before", x.woman(0, 2), 5);
    }

    private static void layForgets() {
        Run x = new Run();
        x.seen(0, 0, 1, true);
        x.hide(0, 1);
        x.look(0, 2, 2);
        x.keep();
        Towns.written(x, "p0,5;s1,1,0;");
        String before = x.whole();
        due.is("lay that cannot be", x.lay(), NO);
        due.same("nothing changes then", x.whole(), before);
        Towns.written(x, "p0,5;");
        due.is("lay", x.lay(), 1);
        due.are("what is forgotten", new int[] {x.count(2), x.count(3), x.count(4), x.count(5)}, 0, 0, 0, 0);
        due.is("undo", x.undo(), NO);
        due.is("back", x.back(), NO);
        due.is("forget", x.forget(), 0);
        due.is("starts", x.starts(0), 3);
        x.hide(0, 0);
        x.keep();
        x.seen(0, 0, 1, true);
        due.is("lay the same", x.lay(), 1);
        due.are("what is forgotten again", new int[] {x.count(3), x.count(4), x.count(5), x.skin(0, 0)}, 0, 0, 0, 1);
    }

    private static void place() {
        Run x = Towns.laid("p5,10;p0,1;s0,1,0;p3,7;");
        due.are("place", new int[] {x.place(0, 0), x.place(0, 1), x.place(1, 0), x.place(1, 1), x.place(2, 0), x.place(2, 1)},
                5, 10, 0, 1, 3, 7);
        int[] wrong = {-1, 3, 9, Integer.MIN_VALUE, Integer.MAX_VALUE};
        for (int p : wrong) {
            due.is("place(" + p + ", 0)", x.place(p, 0), BAD);
            due.is("place(" + p + ", 1)", x.place(p, 1), BAD);
        }
        due.is("place(0, -1)", x.place(0, -1), BAD);
        due.is("place(0, 2)", x.place(0, 2), BAD);
    }

    private static void skin() {
        Run x = Towns.laid("p0,5;p0,5;s1,20,3;s0,1,2;s0,10,0;l2,0,60;l1,1,2;");
        due.are("skin 0", new int[] {x.skin(0, 0), x.skin(0, 1), x.skin(0, 2), x.skin(0, 3)}, 1, 20, 3, NONE);
        due.are("skin 1", new int[] {x.skin(1, 0), x.skin(1, 1), x.skin(1, 2), x.skin(1, 3)}, 0, 1, 2, 1);
        due.are("skin 2", new int[] {x.skin(2, 0), x.skin(2, 1), x.skin(2, 2), x.skin(2, 3)}, 0, 10, 0, 2);
        int[] wrong = {-1, 3, 5, Integer.MIN_VALUE, Integer.MAX_VALUE};
        for (int i : wrong) {
            for (int what = 0; what <= 3; what++) {
                due.is("skin(" + i + ", " + what + ")", x.skin(i, what), BAD);
            }
        }
        due.is("skin(0, -1)", x.skin(0, -1), BAD);
        due.is("skin(0, 4)", x.skin(0, 4), BAD);
        Run smoked = Towns.laid("p0,5;s0,9,1;w1;");
        due.is("the size at first, smoke or none", smoked.skin(0, 1), 9);
        Run swapped = Towns.laid("p0,5;p0,5;s0,5,0;s1,5,0;l0,1,3;l1,0,4;");
        due.are("found by another", new int[] {swapped.skin(0, 3), swapped.skin(1, 3)}, 1, 0);
    }
}
