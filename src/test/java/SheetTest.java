/** Promises 28 to 33: sheet, write, copy, lays, book, read. */
public final class SheetTest {
    private static final Check CHECK = new Check();

    public static void main(String[] args) {
        sheet();
        write();
        copy();
        lays();
        book();
        read();
        CHECK.finish("SheetTest");
    }

    private static void sheet() {
        KettleInquest x = new KettleInquest();
        for (int s = 0; s < 4; s++) {
            CHECK.due("28: sheet(" + s + ", 8, 40)", 40, x.sheet(s, 8, 40));
        }
        CHECK.due("28: 16 bits", 1, x.sheet(1, 16, 1));
        CHECK.due("28: 64 bits, no number", 0, x.sheet(2, 64, 0));
        CHECK.due("28: not missing", 0, x.book(2));
        CHECK.due("28: no such number", Check.BEYOND, x.write(2, 0, 1));
        CHECK.due("28: missing", 0, x.sheet(3, 0, 17));
        CHECK.due("28: it is", Check.MISSING, x.book(3));
        int[][] beyond = {{-1, 8, 1}, {4, 8, 1}, {0, 1, 1}, {0, 32, 1}, {0, -8, 1}, {0, 8, 41}, {0, 0, 41}, {4, 8, -1},
            {0, 7, -1}, {0, 8, Integer.MAX_VALUE}};
        for (int[] b : beyond) {
            CHECK.due("28: sheet(" + b[0] + ", " + b[1] + ", " + b[2] + ")", Check.BEYOND, x.sheet(b[0], b[1], b[2]));
        }
        int[][] size = {{0, 8, -1}, {0, 0, -1}, {0, 64, Integer.MIN_VALUE}};
        for (int[] b : size) {
            CHECK.due("28: sheet(" + b[0] + ", " + b[1] + ", " + b[2] + ")", Check.SIZE, x.sheet(b[0], b[1], b[2]));
        }
        CHECK.due("28: a finding changes nothing", 40, x.book(0));
        x.write(0, 39, 5);
        x.sheet(0, 8, 40);
        CHECK.due("28: all 0 anew", 0, x.write(0, 39, 1));
    }

    private static void write() {
        KettleInquest x = new KettleInquest();
        CHECK.due("29: no such sheet", Check.BEYOND, x.write(-1, 0, 0));
        CHECK.due("29: no such sheet", Check.BEYOND, x.write(4, 0, 0));
        CHECK.due("29: missing", Check.MISSING, x.write(0, 99, 0));
        x.sheet(0, 8, 3);
        x.sheet(1, 16, 3);
        x.sheet(2, 64, 3);
        int[] beyond = {-1, 3, Integer.MIN_VALUE, Integer.MAX_VALUE};
        for (int i : beyond) {
            CHECK.due("29: no such number", Check.BEYOND, x.write(0, i, 1));
        }
        long[] put = {127, 128, 255, 256, 32767, 32768, 65535, 65536, -1, -129, Long.MAX_VALUE, Long.MIN_VALUE};
        long[] bits8 = {127, -128, -1, 0, -1, 0, -1, 0, -1, 127, -1, 0};
        long[] bits16 = {127, 128, 255, 256, 32767, -32768, -1, 0, -1, -129, -1, 0};
        for (int i = 0; i < put.length; i++) {
            x.write(0, 1, put[i]);
            x.write(1, 1, put[i]);
            x.write(2, 1, put[i]);
            CHECK.due("29: lowest 8 bits of " + put[i], bits8[i], x.write(0, 1, 0));
            CHECK.due("29: lowest 16 bits of " + put[i], bits16[i], x.write(1, 1, 0));
            CHECK.due("29: all bits of " + put[i], put[i], x.write(2, 1, 0));
        }
        for (int s = 0; s < 3; s++) {
            CHECK.due("29: the others stay", 0, x.write(s, 0, 0));
            CHECK.due("29: the others stay", 0, x.write(s, 2, 0));
        }
    }

    private static KettleInquest counted() {
        KettleInquest x = new KettleInquest();
        x.sheet(0, 16, 5);
        x.sheet(1, 16, 3);
        x.sheet(2, 8, 5);
        for (int i = 0; i < 5; i++) {
            x.write(0, i, 10 + i);
        }
        return x;
    }

    private static void numbers(String what, KettleInquest x, int s, long... due) {
        for (int i = 0; i < due.length; i++) {
            CHECK.due(what + ", number " + i, due[i], x.write(s, i, 0));
        }
    }

    private static void copy() {
        KettleInquest x = counted();
        CHECK.due("30: to another", 2, x.copy(0, 3, 1, 1, 2));
        numbers("30: to another", x, 1, 0, 13, 14);
        x = counted();
        CHECK.due("30: up, as they all were", 4, x.copy(0, 0, 0, 1, 4));
        numbers("30: up", x, 0, 10, 10, 11, 12, 13);
        x = counted();
        CHECK.due("30: down, as they all were", 4, x.copy(0, 1, 0, 0, 4));
        numbers("30: down", x, 0, 11, 12, 13, 14, 14);
        x = counted();
        CHECK.due("30: none", 0, x.copy(0, 5, 1, 3, 0));
        x.sheet(3, 16, 5);
        CHECK.due("30: all", 5, x.copy(0, 0, 3, 0, 5));
        numbers("30: all", x, 3, 10, 11, 12, 13, 14);
        x.sheet(3, 0, 0);
        int top = Integer.MAX_VALUE;
        int[][] beyond = {{-1, 0, 0, 0, 1}, {0, 0, 4, 0, 1}, {4, 0, 3, 0, 1}, {0, 4, 1, 0, 2}, {0, 0, 1, 2, 2}, {0, 0, 1, 0, 4},
            {0, -1, 1, 0, 1}, {0, 0, 1, -1, 1}, {0, 0, 1, 0, -1}, {0, 6, 1, 0, 0}, {0, 0, 1, 4, 0}, {0, top, 1, 0, 1},
            {0, 1, 1, 1, top}, {0, top, 1, top, top}, {0, Integer.MIN_VALUE, 1, 0, Integer.MIN_VALUE}};
        for (int[] b : beyond) {
            CHECK.due("30: copy(" + b[0] + ", " + b[1] + ", " + b[2] + ", " + b[3] + ", " + b[4] + ")", Check.BEYOND,
                x.copy(b[0], b[1], b[2], b[3], b[4]));
        }
        CHECK.due("30: missing", Check.MISSING, x.copy(0, 0, 3, 0, -1));
        CHECK.due("30: missing", Check.MISSING, x.copy(3, 0, 0, 0, 1));
        CHECK.due("30: other bits", Check.KIND, x.copy(0, 0, 2, 0, -1));
        numbers("30: findings change nothing", x, 0, 10, 11, 12, 13, 14);
        numbers("30: findings change nothing", x, 1, 0, 0, 0);
    }

    private static void lays() {
        KettleInquest x = new KettleInquest();
        CHECK.due("31: no such sheet", Check.BEYOND, x.lays(4));
        CHECK.due("31: no such sheet", Check.BEYOND, x.lays(-1));
        CHECK.due("31: missing", Check.MISSING, x.lays(0));
        for (int w = 0; w < 5; w++) {
            x.witness(0);
        }
        x.sheet(0, 64, 4);
        long[] put = {9, -1, 10, 0};
        for (int i = 0; i < 4; i++) {
            x.write(0, i, put[i]);
        }
        CHECK.due("31: two of four came", 2, x.lays(0));
        int[] due = {9, 3, 3, 0, 3};
        for (int w = 0; w < 5; w++) {
            CHECK.due("31: sure of " + w, due[w], x.of(w, 3));
        }
        x.write(0, 0, 1L << 32);
        CHECK.due("31: a long is looked at whole", 1, x.lays(0));
        CHECK.due("31: 0 stays 9", 9, x.of(0, 3));
        x.sheet(1, 8, 40);
        CHECK.due("31: those that stand for none", 5, x.lays(1));
        CHECK.due("31: all unsure", 0, x.count(3));
    }

    private static void book() {
        KettleInquest x = Check.liarAlone();
        CHECK.due("32: no such sheet", Check.BEYOND, x.book(4));
        CHECK.due("32: no such sheet", Check.BEYOND, x.book(-1));
        CHECK.due("32: missing", Check.MISSING, x.book(0));
        String before = Check.seen(x);
        x.sheet(0, 8, 10);
        CHECK.due("32: ten", 10, x.book(0));
        CHECK.holds("32: nothing else changes", before.equals(Check.seen(x)));
        numbers("32: heat", x, 0, 0, 4, 8, 12, 16, 10, 13, 16, 19, 11);
        x.sheet(1, 64, 40);
        x.kettle(0, 99);
        x.kettle(1, 0);
        CHECK.due("32: forty", 40, x.book(1));
        numbers("32: heat", x, 1, 99, 99, 99);
        KettleInquest empty = new KettleInquest();
        empty.kettle(0, 2);
        empty.sheet(3, 16, 4);
        CHECK.due("32: nobody there", 4, empty.book(3));
        numbers("32: it cools", empty, 3, 2, 1, 0, 0);
    }

    private static void read() {
        KettleInquest x = new KettleInquest();
        Check.call(x, 3, 7, 255, 3);
        CHECK.due("33: no such sheet", Check.BEYOND, x.read(4, 0));
        CHECK.due("33: no such sheet", Check.BEYOND, x.read(-1, 9));
        CHECK.due("33: missing", Check.MISSING, x.read(0, 9));
        x.sheet(0, 8, 13);
        CHECK.due("33: no such one", Check.BEYOND, x.read(0, 1));
        CHECK.due("33: no such one", Check.BEYOND, x.read(0, -1));
        CHECK.due("33: more than 12", Check.SIZE, x.read(0, 0));
        x.sheet(0, 8, 0);
        CHECK.due("33: no number: all", 1536, x.read(0, 0));
        x.sheet(0, 8, 1);
        CHECK.due("33: it is 0 now: all", 1536, x.read(0, 0));
        x.write(0, 0, 1);
        CHECK.due("33: it isn't 1: none", 0, x.read(0, 0));
        x.sheet(0, 64, 2);
        String before = Check.seen(x);
        int[][] due = {{0, 768}, {1, 128}, {4, 512}, {5, 0}, {9, 128}, {10, 0}};
        for (int[] d : due) {
            x.write(0, 1, d[0]);
            CHECK.due("33: " + d[0] + " on 1", d[1], x.read(0, 0));
        }
        x.write(0, 1, 4L + (1L << 32));
        CHECK.due("33: a long is looked at whole", 0, x.read(0, 0));
        CHECK.holds("33: nothing changes", before.equals(Check.seen(x)));
        x.sheet(1, 8, 12);
        x.turn(0, 1);
        x.set(0, 1, 255);
        x.set(0, 3, 9);
        x.kettle(1, 3);
        x.book(1);
        CHECK.due("33: 12: one pair, a plumber that knows all", 1, x.read(1, 0));
    }
}
