/**
 * The edges that the document's head, its "Terms" and promises 1 to 7 name. Each sentence has a test of its own: the
 * last value inside, the first one outside, and, where a call is refused, that nothing is another then.
 */
final class TextEdgesTest {
    private static final Due due = new Due("TextEdgesTest");
    private static final int BAD = Due.BAD, NO = Due.NO, FULL = Due.FULL, NONE = Due.NONE;
    private static final int MIN = Integer.MIN_VALUE, MAX = Integer.MAX_VALUE;
    private static final String FIRST = "p0,5;p0,5;p1,2;s0,6,0;s2,6,1;l0,1,1;l1,2,2;";
    /** One place more can be told behind it. */
    private static final String EIGHT = "p0,5;".repeat(8) + "s0,6,0;";
    /** Each P from 0 to 8 is there. */
    private static final String NINE = "p0,5;".repeat(9) + "s0,6,0;";

    public static void main(String[] args) {
        aNewObject();
        objectsStandAlone();
        callsTo512();
        textOf300Bytes();
        textOf300BytesIsRead();
        writeOneToEightBytes();
        writeTheLowestBytes();
        wipe();
        faultPlace();
        faultOfTheFirstItem();
        oneOrTwoFigures();
        aFigureIsOneOfTen();
        partedByCommaAndEnded();
        asManyNumbersAsTold();
        letters();
        house();
        view();
        ninePlaces();
        skinPlace();
        skinSize();
        skinKind();
        fiveSkins();
        lookWoman();
        lookPlace();
        lookDay();
        nineLooks();
        smoke();
        tide();
        aPlaceAndASkinAtLeast();
        allPlacesAreThere();
        layForgets();
        layRefusedForgetsNothing();
        place();
        skin();
        due.end();
    }

    /** The item is so, behind what is told ahead, and the text can be laid. */
    private static Run inside(String ahead, String item) {
        Run x = new Run();
        Towns.written(x, ahead + item);
        due.is("fault of " + ahead + item, x.fault(), NONE);
        due.is("lay of " + ahead + item, x.lay() > 0 ? 1 : 0, 1);
        return x;
    }

    /** The item is the fault, behind what is told ahead. */
    private static void outside(String ahead, String item) {
        Run x = new Run();
        Towns.written(x, ahead + item);
        due.is("fault of " + ahead + item, x.fault(), ahead.length());
        due.refused("lay of " + ahead + item, x, Run::lay, NO);
    }

    /** An object whose text has so many bytes (12 at least), and can be laid. */
    private static Run ofLength(int length) {
        int rest = length - 12;
        int fours = rest % 3;
        Run x = new Run();
        int answer = Towns.written(x, "p0,5;s0,6,0;" + "w01;".repeat(fours) + "w1;".repeat((rest - 4 * fours) / 3));
        due.is("a text of " + length, answer, length);
        return x;
    }

    // "As told; THE TEXT is empty." (at first p0,5;p0,5;p1,2;s0,6,0;s2,6,1;l0,1,1;l1,2,2;)
    private static void aNewObject() {
        Run x = new Run();
        due.same("as told", x.town(), Towns.laid(FIRST).town());
        due.are("nothing else", new int[] {x.count(3), x.count(4), x.count(5), x.count(6)}, 0, 0, 0, 0);
        due.is("no fault in the empty text", x.fault(), NONE);
        due.is("how long the empty text was", x.wipe(), 0);
        due.refused("lay of the empty text", x, Run::lay, NO);
        due.refused("undo at first", x, Run::undo, NO);
        due.refused("back at first", x, Run::back, NO);
    }

    // What is done to one object is not done to another one.
    private static void objectsStandAlone() {
        Run x = new Run();
        Run y = new Run();
        String before = y.whole();
        x.hide(0, 2);
        x.look(0, 2, 3);
        x.seen(1, 1, 1, true);
        x.keep();
        Towns.written(x, "p0,5;s0,9,0;");
        due.same("another object", y.whole(), before);
        due.are("asked itself", new int[] {y.skin(0, 0), y.count(2), y.count(3), y.count(4), y.count(5), y.count(6)},
                0, 2, 0, 0, 0, 0);
        x.lay();
        due.are("asked again", new int[] {y.count(0), y.count(1), y.skin(0, 1)}, 3, 2, 6);
    }

    // "An object is used for at most 512 calls after it has been made"
    private static void callsTo512() {
        Run x = new Run();
        for (int k = 0; k < 255; k++) {
            due.is("hide", x.hide(0, 1), 0);
            due.is("undo", x.undo(), 0);
        }
        due.is("call 511", x.hide(1, 0), 2);
        due.is("call 512", x.where(1, 60), 2);
        due.is("no call is left", x.callsLeft(), 0);
    }

    // "A TEXT is bytes (300 at most)"; write: "FULL"
    private static void textOf300Bytes() {
        for (int n = 1; n <= 8; n++) {
            int bytes = n;
            due.is("write(" + n + ") to 300", ofLength(300 - n).write(n, 0x7777777777777777L), 300);
            due.refused("write(" + n + ") to 301", ofLength(301 - n), x -> x.write(bytes, 0x7777777777777777L), FULL);
            due.refused("write(" + n + ") behind 300", ofLength(300), x -> x.write(bytes, 0x7777777777777777L), FULL);
        }
        due.is("write(1) behind 298", ofLength(298).write(1, 0x77L), 299);
        // What is refused leaves room for what is less.
        Run x = ofLength(295);
        due.is("write(8) behind 295", x.write(8, 0L), FULL);
        due.is("write(6) behind 295", x.write(6, 0L), FULL);
        due.is("write(5) behind 295", x.write(5, 0L), 300);
    }

    private static void textOf300BytesIsRead() {
        Run x = ofLength(297);
        due.is("the last item", x.write(3, 0x77343BL), 300);
        due.is("no fault in 300 bytes", x.fault(), NONE);
        due.is("lay of 300 bytes", x.lay(), 1);
        due.is("the last item counts", x.size(0, 4), 5);
        due.is("the text stays", x.wipe(), 300);
        Run y = ofLength(297);
        y.write(3, 0x773434L);
        due.is("the last item without its end", y.fault(), 297);
        due.refused("lay of it", y, Run::lay, NO);
        Run z = ofLength(299);
        z.write(1, 0x77L);
        due.is("the last byte alone", z.fault(), 299);
        due.refused("lay of that", z, Run::lay, NO);
    }

    // "The lowest n bytes (1 to 8) of v"; BAD, ahead of FULL
    private static void writeOneToEightBytes() {
        due.is("write(1)", new Run().write(1, 0x70L), 1);
        due.is("write(8)", new Run().write(8, 0x70302C353B70302CL), 8);
        for (int n : new int[] {0, 9, -1, -8, 16, 256, 257, MIN, MIN + 8, MAX}) {
            due.refused("write(" + n + ")", new Run(), x -> x.write(n, 0x70L), BAD);
            due.refused("write(" + n + ") behind 12", ofLength(12), x -> x.write(n, 0x70L), BAD);
            due.refused("write(" + n + ") behind 300", ofLength(300), x -> x.write(n, 0x70L), BAD);
        }
    }

    // "The lowest n bytes (1 to 8) of v, the highest of these first, come behind THE TEXT"
    private static void writeTheLowestBytes() {
        String[] ahead = {"w7", "w", "", "", "", "", "", ""};
        String[] written = {";", "7;", "w7;", "w07;", "p1,7;", "p1,10;", "s0,7,0;", "s0,08,0;"};
        for (int n = 1; n <= 8; n++) {
            for (long junk : new long[] {0L, -1L, 0x3B70302C353B3B77L}) {
                long v = junk;
                for (int k = 0; k < n; k++) {
                    v = v << 8 | written[n - 1].charAt(k);
                }
                Run x = new Run();
                Towns.written(x, "p0,5;s0,6,0;" + ahead[n - 1]);
                due.is("write " + written[n - 1], x.write(n, v), 12 + ahead[n - 1].length() + n);
                due.is("fault behind " + written[n - 1], x.fault(), NONE);
                due.is("lay behind " + written[n - 1], x.lay(), n < 7 ? 1 : 2);
                due.is("what was told by " + written[n - 1], told(x, n), n < 5 ? 5 : n == 5 ? 7 : n == 6 ? 10 : n);
            }
        }
    }

    private static int told(Run x, int n) {
        return n < 5 ? x.size(0, 7) : n < 7 ? x.place(1, 1) : x.skin(1, 1);
    }

    // "THE TEXT is empty: how long it was."
    private static void wipe() {
        for (int length : new int[] {12, 299, 300}) {
            Run x = ofLength(length);
            due.is("wipe of " + length, x.wipe(), length);
            due.is("count of the wiped text", x.count(6), 0);
            due.is("fault of the wiped text", x.fault(), NONE);
            due.refused("lay of the wiped text", x, Run::lay, NO);
            due.is("wipe of the wiped text", x.wipe(), 0);
            due.is("write anew", x.write(8, 0L), 8);
        }
        Run x = new Run();
        due.is("one byte", x.write(1, 0L), 1);
        due.is("wipe of one byte", x.wipe(), 1);
        due.same("all else stands", x.whole(), new Run().whole());
        Run y = atTheMost();
        String town = y.town();
        due.is("wipe", y.wipe(), 38);
        due.same("the town stands", y.town(), town);
        due.are("and what is seen, undone and kept", new int[] {y.count(3), y.count(4), y.count(5)}, 8, 8, 2);
    }

    // "FAULT: the place (from 0 on) of the first byte"
    private static void faultPlace() {
        outside("", "x");
        outside("", "p");
        outside("", "p0,5");
        outside("p0,5;", "s0,6,0");
        outside("p0,5;s0,6,0;", ";");
        outside("p0,5;s0,6,0;", "l0,0,61;");
        outside("p0,5;s0,6,0;" + "w1;".repeat(94), "w61;");
        Run x = ofLength(299);
        due.is("no fault yet", x.fault(), NONE);
        x.write(1, 0x3BL);
        due.is("the highest place", x.fault(), 299);
        due.is("fault changes nothing", x.fault(), 299);
    }

    // "of the first ITEM that is not so": NONE, if all are so
    private static void faultOfTheFirstItem() {
        due.is("no item", Towns.faultOf(""), NONE);
        due.is("one item", Towns.faultOf("p0,5;"), NONE);
        due.is("the second of three", Towns.faultOf("p0,5;p6,5;p0,0;"), 5);
        due.is("the third of three", Towns.faultOf("p0,5;p5,5;p0,0;"), 10);
        due.is("all of three", Towns.faultOf("p9,5;p6,5;p0,0;"), 0);
        due.is("what is so behind it does not mend it", Towns.faultOf("p0,5;p0,5p0,5;p0,5;"), 5);
        due.is("an item too many behind another fault", Towns.faultOf("p6,1;" + "p0,5;".repeat(10)), 0);
        due.is("an item too many ahead of another fault", Towns.faultOf("p0,5;".repeat(10) + "p6,1;"), 45);
    }

    // "numbers (one or two figures)"
    private static void oneOrTwoFigures() {
        String[][] items = {{EIGHT, "p", ",5;", "5", "05"}, {EIGHT, "p0,", ";", "5", "10"}, {NINE, "s", ",6,0;", "8", "08"},
            {NINE, "s0,", ",0;", "9", "20"}, {NINE, "s0,6,", ";", "3", "03"}, {NINE, "l", ",0,1;", "0", "00"},
            {NINE, "l0,", ",1;", "8", "08"}, {NINE, "l0,0,", ";", "9", "60"}, {NINE, "w", ";", "9", "60"}, {NINE, "t", ";", "9", "20"}};
        for (String[] item : items) {
            inside(item[0], item[1] + item[3] + item[2]);
            inside(item[0], item[1] + item[4] + item[2]);
            outside(item[0], item[1] + item[2]);
            outside(item[0], item[1] + "0" + item[4] + item[2]);
            outside(item[0], item[1] + "00" + item[4] + item[2]);
            outside(item[0], item[1] + item[3].repeat(3) + item[2]);
        }
        due.is("a 0 ahead is no other number", inside(EIGHT, "p05,07;").place(8, 1), 7);
    }

    // A figure is one of 0 to 9: each other byte in its stead is the fault.
    private static void aFigureIsOneOfTen() {
        for (int b = 0; b <= 255; b++) {
            boolean figure = b >= '0' && b <= '9';
            due.is("w, byte " + b, Towns.faultOf("w1;w" + (char) b + ";"), figure ? NONE : 3);
            due.is("w1, byte " + b, Towns.faultOf("w1;w1" + (char) b + ";"), figure || b == ';' ? b == ';' ? 6 : NONE : 3);
        }
    }

    // "parted by , and ; (behind the last one, too)"
    private static void partedByCommaAndEnded() {
        for (String wrong : new String[] {"p0,5", "p0,5,", "p0;5;", "p0 5;", "p05;", "p0,,5;", "p,0,5;", "p0,5.", "p0,5 ;"}) {
            outside(EIGHT, wrong);
        }
        for (String wrong : new String[] {"s0,6,0", "s0,6,0,", "s0;6,0;", "s0,6;0;", "l0,0,1", "l0;0,1;", "l0,0;1;", "w1", "w1,", "t1", "t1,"}) {
            outside(NINE, wrong);
        }
        for (int b = 0; b <= 255; b++) {
            due.is("between the numbers byte " + b, Towns.faultOf("w1;p0" + (char) b + "5;"), b == ',' ? NONE : 3);
            due.is("behind the last number byte " + b, Towns.faultOf("w1;p0,5" + (char) b), b == ';' ? NONE : 3);
        }
        due.is("nothing between two items", Towns.faultOf("w1;,w1;"), 3);
        due.is("; between two items", Towns.faultOf("w1;;w1;"), 3);
    }

    private static void asManyNumbersAsTold() {
        inside(EIGHT, "p0,5;");
        outside(EIGHT, "p0;");
        outside(EIGHT, "p0,5,5;");
        inside(NINE, "s0,6,0;");
        outside(NINE, "s0,6;");
        outside(NINE, "s0,6,0,0;");
        inside(NINE, "l0,0,1;");
        outside(NINE, "l0,0;");
        outside(NINE, "l0,0,1,1;");
        inside(NINE, "w1;");
        outside(NINE, "w;");
        outside(NINE, "w1,1;");
        inside(NINE, "t1;");
        outside(NINE, "t;");
        outside(NINE, "t1,1;");
    }

    // "each a letter": p, s, l, w and t alone
    private static void letters() {
        for (int b = 0; b <= 255; b++) {
            String c = String.valueOf((char) b);
            due.is("one number behind byte " + b, Towns.faultOf(NINE + c + "1;"), "wt".contains(c) ? NONE : 52);
            due.is("two numbers behind byte " + b, Towns.faultOf(EIGHT + c + "1,1;"), c.equals("p") ? NONE : 47);
            due.is("three numbers behind byte " + b, Towns.faultOf(NINE + c + "0,1,1;"), "sl".contains(c) ? NONE : 52);
        }
    }

    // "a PLACE in HOUSE H (0 to 5)"
    private static void house() {
        for (int h = 0; h <= 5; h++) {
            due.is("house " + h, inside(EIGHT, "p" + h + ",5;").place(8, 0), h);
        }
        for (String wrong : new String[] {"p6,5;", "p06,5;", "p10,5;", "p50,5;", "p99,5;"}) {
            outside(EIGHT, wrong);
        }
    }

    // "in which one sees by D (1 to 10)"
    private static void view() {
        for (int d = 1; d <= 10; d++) {
            due.is("view " + d, inside(EIGHT, "p0," + d + ";").place(8, 1), d);
        }
        for (String wrong : new String[] {"p0,0;", "p0,00;", "p0,11;", "p0,20;", "p0,99;"}) {
            outside(EIGHT, wrong);
        }
    }

    // "9 at most, 0, 1, .." (PLACES)
    private static void ninePlaces() {
        for (int n = 1; n <= 9; n++) {
            due.is("places", inside("s0,6,0;", "p0,5;".repeat(n)).count(0), n);
        }
        outside(NINE, "p0,5;");
        outside("p0,5;".repeat(4) + "s0,6,0;w1;" + "p0,5;".repeat(5) + "t2;", "p0,5;");
        Run x = inside("p1,1;p2,2;s0,6,0;p3,3;", "p4,4;");
        due.are("numbered as told", new int[] {x.place(0, 0), x.place(1, 0), x.place(2, 1), x.place(3, 1)}, 1, 2, 3, 4);
    }

    // "at PLACE P (0 to 8) at first"
    private static void skinPlace() {
        for (int p = 0; p <= 8; p++) {
            due.is("at first at " + p, inside(NINE, "s" + p + ",6,0;").skin(1, 0), p);
        }
        for (String wrong : new String[] {"s9,6,0;", "s09,6,0;", "s10,6,0;", "s80,6,0;", "s99,6,0;"}) {
            outside(NINE, wrong);
        }
        // So far as 8 it is no fault, if the place is there or not.
        due.is("place 8 of one", Towns.faultOf("p0,5;s8,6,0;"), NONE);
        due.is("place 9 of one", Towns.faultOf("p0,5;s9,6,0;"), 5);
    }

    // "of size Z (1 to 20)"
    private static void skinSize() {
        for (int z = 1; z <= 20; z++) {
            due.is("size " + z, inside(NINE, "s0," + z + ",0;").skin(1, 1), z);
        }
        for (String wrong : new String[] {"s0,0,0;", "s0,00,0;", "s0,21,0;", "s0,30,0;", "s0,99,0;"}) {
            outside(NINE, wrong);
        }
    }

    // "a LAW of KIND K (0 STAY, 1 NEXT, 2 FRO, 3 HOME)"
    private static void skinKind() {
        for (int k = 0; k <= 3; k++) {
            due.is("kind " + k, inside(NINE, "s0,6," + k + ";").skin(1, 2), k);
        }
        for (String wrong : new String[] {"s0,6,4;", "s0,6,04;", "s0,6,10;", "s0,6,30;", "s0,6,99;"}) {
            outside(NINE, wrong);
        }
    }

    // "5 at most" (SKINS)
    private static void fiveSkins() {
        for (int n = 1; n <= 5; n++) {
            Run x = inside("p0,5;", "s0,6,0;".repeat(n - 1) + "s0,9,1;");
            due.are("skins", new int[] {x.count(1), x.lay(), x.skin(n - 1, 1), x.skin(n - 1, 2)}, n, n, 9, 1);
        }
        outside("p0,5;" + "s0,6,0;".repeat(5), "s0,6,0;");
        outside("s0,6,0;s0,6,0;p0,5;w1;s0,6,0;s0,6,0;l3,0,1;s0,6,0;", "s0,6,0;");
    }

    // "WOMAN I (told ahead) looks"
    private static void lookWoman() {
        for (int n = 1; n <= 5; n++) {
            String ahead = "p0,5;" + "s0,6,0;".repeat(n);
            due.is("the last woman", inside(ahead, "l" + (n - 1) + ",0,7;").woman(n - 1, 1), 7);
            outside(ahead, "l" + n + ",0,7;");
            outside(ahead, "l" + n + ",0,7;" + "s0,6,0;");
        }
        outside("p0,5;", "l0,0,1;s0,6,0;");
        outside("p0,5;s0,6,0;", "l10,0,1;");
        outside("p0,5;s0,6,0;", "l99,0,1;");
    }

    // "at PLACE P (0 to 8)" (a look)
    private static void lookPlace() {
        for (int p = 0; p <= 8; p++) {
            due.is("a look at " + p, inside("p0,5;".repeat(9) + "s" + p + ",6,0;", "l0," + p + ",7;").woman(0, 1), 7);
        }
        for (String wrong : new String[] {"l0,9,1;", "l0,09,1;", "l0,10,1;", "l0,99,1;"}) {
            outside(NINE, wrong);
        }
        due.is("a look at place 8 of one", Towns.faultOf("p0,5;s0,6,0;l0,8,1;"), NONE);
        due.is("a look at place 9 of one", Towns.faultOf("p0,5;s0,6,0;l0,9,1;"), 12);
    }

    // "on day T (1 to 60)"
    private static void lookDay() {
        for (int t : new int[] {1, 2, 9, 10, 59, 60}) {
            due.is("a look on " + t, inside(NINE, "l0,0," + t + ";").woman(0, 1), t);
        }
        for (String wrong : new String[] {"l0,0,0;", "l0,0,00;", "l0,0,61;", "l0,0,70;", "l0,0,99;"}) {
            outside(NINE, wrong);
        }
    }

    // "9 at most" (looks)
    private static void nineLooks() {
        for (int n = 0; n <= 9; n++) {
            due.is("looks", inside("p0,5;s0,6,0;", "l0,0,1;".repeat(n)).count(2), n);
        }
        outside("p0,5;s0,6,0;" + "l0,0,1;".repeat(9), "l0,0,1;");
        outside("p0,5;s0,6,0;s0,9,0;" + "l1,0,1;".repeat(5) + "w1;" + "l0,0,1;".repeat(4) + "t1;", "l1,0,1;");
        due.is("the ninth look is one", inside("p0,5;p0,5;s0,6,0;", "l0,1,1;".repeat(8) + "l0,0,60;").woman(0, 1), 60);
    }

    // "each W days SKINS are smaller by 1 (0 to 60; 0 without: never; the last one)"
    private static void smoke() {
        due.is("w60", inside(NINE, "w60;").size(0, 60), 5);
        due.is("w60, the day ahead", inside(NINE, "w60;").size(0, 59), 6);
        due.is("w1", inside(NINE, "w1;").size(0, 1), 5);
        due.is("w0", inside(NINE, "w0;").size(0, 60), 6);
        due.is("w00", inside(NINE, "w00;").size(0, 60), 6);
        due.is("without", inside(NINE, "").size(0, 60), 6);
        for (String wrong : new String[] {"w61;", "w70;", "w99;"}) {
            outside(NINE, wrong);
        }
        due.is("the last of two", inside(NINE, "w1;w60;").size(0, 59), 6);
        due.is("the last of three", inside(NINE, "w60;w0;w1;").size(0, 1), 5);
        due.is("the last is 0", inside(NINE, "w1;w0;").size(0, 60), 6);
        due.are("without, behind towns with it", laidAnew("w1;"), 6, 1);
    }

    // "it is high TIDE each T days (1 to 20; 1 without; of several the last one counts)"
    private static void tide() {
        String ahead = NINE + "l0,0,1;";
        due.is("t20", inside(ahead, "t20;").woman(0, 2), 20);
        due.is("t1", inside(ahead, "t1;").woman(0, 2), 1);
        due.is("t2", inside(ahead, "t2;").woman(0, 2), 2);
        due.is("without", inside(ahead, "").woman(0, 2), 1);
        for (String wrong : new String[] {"t0;", "t00;", "t21;", "t30;", "t99;"}) {
            outside(ahead, wrong);
        }
        due.is("the last of two", inside(ahead, "t7;t20;").woman(0, 2), 20);
        due.is("the last of three", inside(ahead, "t20;t7;t1;").woman(0, 2), 1);
        due.are("without, behind towns with it", laidAnew("t20;"), 6, 1);
    }

    /** The size on day 60 of a skin, and when a woman goes, in a town without smoke and tide that is laid behind two others. */
    private static int[] laidAnew(String more) {
        Run x = new Run();
        for (String text : new String[] {"p0,5;s0,9,0;" + more, "p0,5;s0,9,0;" + more, "p0,5;s0,6,0;s0,6,0;l1,0,1;"}) {
            x.wipe();
            Towns.written(x, text);
            due.is("lay of " + text, x.lay() > 0 ? 1 : 0, 1);
        }
        return new int[] {x.size(1, 60), x.woman(1, 2)};
    }

    /** No item of the text is a fault, but it is not LAID. */
    private static void notLaid(String text) {
        Run x = new Run();
        Towns.written(x, text);
        due.is("fault of " + text, x.fault(), NONE);
        due.refused("lay of " + text, x, Run::lay, NO);
    }

    // "LAID is a TEXT without FAULT, of a PLACE and a SKIN at least"
    private static void aPlaceAndASkinAtLeast() {
        due.is("lay of one and one", inside("p0,5;", "s0,6,0;").lay(), 1);
        due.is("lay, the skin ahead", inside("s0,6,0;", "p0,5;").lay(), 1);
        notLaid("");
        notLaid("w1;t1;");
        notLaid("p0,5;");
        notLaid("p0,5;".repeat(9));
        notLaid("s0,6,0;");
        notLaid("s0,6,0;".repeat(5) + "l0,0,1;");
        outside("p0,5;s0,6,0;", "x");
    }

    // "all P of which there are (NO else)"
    private static void allPlacesAreThere() {
        for (int n = 1; n <= 9; n++) {
            String places = "p0,5;".repeat(n);
            due.is("the last place of " + n, inside(places + "s0,6,0;", "s" + (n - 1) + ",6,0;").skin(1, 0), n - 1);
            due.is("a look at the last place of " + n, inside(places + "s0,6,0;", "l0," + (n - 1) + ",1;").count(2), 1);
            due.is("the last place of " + n + " told behind", inside("s" + (n - 1) + ",6,0;l0," + (n - 1) + ",3;", places).woman(0, 1), 3);
            if (n < 9) {
                notLaid(places + "s" + n + ",6,0;");
                notLaid(places + "s0,6,0;s" + n + ",6,0;s0,6,0;");
                notLaid(places + "s0,6,0;l0," + n + ",1;");
                notLaid(places + "s0,6,0;l0,0,1;l0," + n + ",1;l0,0,1;");
                notLaid("s0,6,0;l0," + n + ",1;" + places);
            }
        }
    }

    /** An object of which as much is SEEN, can be UNDONE and is KEPT as can be; its text is the one that it is laid by. */
    private static Run atTheMost() {
        Run x = Towns.laid("p0,5;p0,5;s1,9,1;s0,6,0;l0,0,3;w20;t7;");
        for (int k = 1; k <= 8; k++) {
            x.seen(0, 0, k, k % 2 == 0);
            x.hide(1, k % 2);
        }
        x.keep();
        x.look(1, 1, 5);
        x.keep();
        due.are("at the most", new int[] {x.count(3), x.count(4), x.count(5)}, 8, 8, 2);
        return x;
    }

    // lay: "nothing SEEN, UNDONE, KEPT (THE TEXT stays)"
    private static void layForgets() {
        Run x = atTheMost();
        due.is("lay", x.lay(), 2);
        due.are("counts", new int[] {x.count(2), x.count(3), x.count(4), x.count(5), x.count(6)}, 1, 0, 0, 0, 38);
        due.same("as if laid once", x.whole(), Towns.laid("p0,5;p0,5;s1,9,1;s0,6,0;l0,0,3;w20;t7;").whole());
        due.refused("undo behind lay", x, Run::undo, NO);
        due.refused("back behind lay", x, Run::back, NO);
    }

    private static void layRefusedForgetsNothing() {
        for (String more : new String[] {"x", "w61;", "l0,2,1;", "s2,6,0;", "l2,0,1;"}) {
            Run x = atTheMost();
            Towns.written(x, more);
            due.refused("lay with " + more, x, Run::lay, NO);
            due.are("counts", new int[] {x.count(0), x.count(1), x.count(2), x.count(3), x.count(4), x.count(5), x.count(6)},
                    2, 2, 2, 8, 8, 2, 38 + more.length());
        }
        Run x = atTheMost();
        x.wipe();
        due.refused("lay of the wiped text", x, Run::lay, NO);
    }

    // place: "HOUSE (what = 0), D (1). BAD."
    private static void place() {
        for (int n : new int[] {1, 2, 8, 9}) {
            Run x = inside("p1,1;".repeat(n - 1) + "p5,10;", "s0,6,0;");
            due.are("place 0", new int[] {x.place(0, 0), x.place(0, 1)}, n == 1 ? 5 : 1, n == 1 ? 10 : 1);
            due.are("the last place", new int[] {x.place(n - 1, 0), x.place(n - 1, 1)}, 5, 10);
            for (int p : new int[] {-1, n, n + 1, MIN, MAX}) {
                due.refused("place(" + p + ", 0) of " + n, x, y -> y.place(p, 0), BAD);
                due.refused("place(" + p + ", 1) of " + n, x, y -> y.place(p, 1), BAD);
            }
            for (int what : new int[] {-1, 2, MIN, MAX}) {
                due.refused("place(0, " + what + ")", x, y -> y.place(0, what), BAD);
                due.refused("place(n - 1, " + what + ")", x, y -> y.place(n - 1, what), BAD);
            }
        }
    }

    // skin: "where it is at first (what = 0), its size at first (1), KIND (2), by whom it was FOUND to day 60 (3; NONE). BAD."
    private static void skin() {
        for (int n : new int[] {1, 2, 5}) {
            Run x = inside("p0,5;p0,5;" + "s0,6,0;".repeat(n - 1) + "s1,20,3;", "w1;");
            due.are("the last skin", new int[] {x.skin(n - 1, 0), x.skin(n - 1, 1), x.skin(n - 1, 2), x.skin(n - 1, 3)}, 1, 20, 3, NONE);
            for (int i : new int[] {-1, n, n + 1, MIN, MAX}) {
                for (int k = 0; k <= 3; k++) {
                    int what = k;
                    due.refused("skin(" + i + ", " + what + ") of " + n, x, y -> y.skin(i, what), BAD);
                }
            }
            for (int what : new int[] {-1, 4, MIN, MAX}) {
                due.refused("skin(0, " + what + ")", x, y -> y.skin(0, what), BAD);
                due.refused("skin(n - 1, " + what + ")", x, y -> y.skin(n - 1, what), BAD);
            }
        }
        due.is("found on day 1", inside("p0,5;s0,6,0;", "l0,0,1;").skin(0, 3), 0);
        due.is("found on day 60", inside("p0,5;s0,6,0;", "l0,0,60;").skin(0, 3), 0);
        due.is("found by the last of five", inside("p0,5;" + "s0,6,0;".repeat(5), "l4,0,60;").skin(0, 3), 4);
        due.is("found by nobody", inside("p0,5;p0,5;s0,6,0;", "l0,1,60;").skin(0, 3), NONE);
    }
}
