/** Promises 34 to 38: image, undo, tear, count, status. */
public final class ImageTest {
    private static final Check CHECK = new Check();

    public static void main(String[] args) {
        image();
        imageLeavesOut();
        tear();
        count();
        status();
        CHECK.finish("ImageTest");
    }

    private static KettleInquest busy() {
        KettleInquest x = new KettleInquest();
        Check.call(x, 0, 255, 255, 9);
        Check.call(x, 4, 1, 2, 3);
        x.truth(64);
        x.kettle(1, 77);
        x.kettle(2, 18);
        x.minutes(7);
        return x;
    }

    private static void image() {
        KettleInquest x = busy();
        String first = Check.seen(x);
        CHECK.due("34: image()", 1, x.image());
        CHECK.holds("34: nothing else changes", first.equals(Check.seen(x)));
        x.minutes(50);
        x.truth(9);
        x.kettle(0, 99);
        x.kettle(2, 5);
        x.turn(0, 3);
        x.set(0, 2, 77);
        x.swap(0, 1);
        x.witness(5);
        CHECK.due("35: undo()", 2, x.undo());
        CHECK.holds("35: it is what was kept", first.equals(Check.seen(x)));
        x.minutes(1);
        x.set(1, 3, 8);
        CHECK.due("35: what was kept stays", 2, x.undo());
        CHECK.holds("35: it is what was kept", first.equals(Check.seen(x)));
        x.witness(2);
        x.minutes(20);
        String second = Check.seen(x);
        CHECK.due("34: a later one", 1, x.image());
        x.kettle(0, 0);
        x.minutes(9);
        CHECK.due("35: the latest", 3, x.undo());
        CHECK.holds("35: the latest", second.equals(Check.seen(x)));
        CHECK.due("35: not the one before", 3, x.undo());
        KettleInquest empty = new KettleInquest();
        empty.image();
        Check.call(empty, 1, 2, 3, 4);
        CHECK.due("35: nobody was there", 0, empty.undo());
        CHECK.due("35: nobody is there", 0, empty.count(0));
        CHECK.due("35: a new one", 0, empty.witness(5));
        int[] anew = {5, 0, 0, 3};
        for (int what = 0; what < 4; what++) {
            CHECK.due("35: a new one is new, of(0, " + what + ")", anew[what], empty.of(0, what));
        }
    }

    private static void imageLeavesOut() {
        KettleInquest x = busy();
        Check.feed(x, "true");
        x.sheet(0, 8, 2);
        x.write(0, 0, 5);
        x.image();
        Check.feed(x, " 3");
        x.write(0, 0, 6);
        x.sheet(1, 8, 2);
        x.now(99);
        x.undo();
        CHECK.due("35: the tape stays", 6, x.count(1));
        CHECK.due("35: sheets stay", 6, x.write(0, 0, 0));
        CHECK.due("35: sheets stay", 2, x.book(1));
        CHECK.due("35: findings stay", 1, x.status(-1));
        x.inquest();
        CHECK.due("35: the text is whole", 64 | 8, x.now(7));
    }

    private static void tear() {
        KettleInquest x = busy();
        CHECK.due("36: nothing was", 0, x.tear());
        CHECK.due("35: nothing is kept", Check.NONE, x.undo());
        x.image();
        x.image();
        x.minutes(3);
        String before = Check.seen(x);
        CHECK.due("36: something was", 1, x.tear());
        CHECK.due("36: nothing is", 0, x.tear());
        CHECK.due("35: nothing is kept", Check.NONE, x.undo());
        CHECK.holds("36: nothing else changes", before.equals(Check.seen(x)));
    }

    private static void count() {
        KettleInquest x = new KettleInquest();
        for (int what = 0; what < 4; what++) {
            CHECK.due("37: count(" + what + ") at first", 0, x.count(what));
        }
        Check.call(x, 0, 0b1111, 0b0110, 9);
        Check.call(x, 3, 0b0010, 0b1110, 4);
        x.feed(0, 3);
        int[] due = {2, 3, 3, 13};
        for (int what = 0; what < 4; what++) {
            CHECK.due("37: count(" + what + ")", due[what], x.count(what));
        }
        int[] beyond = {-1, 4, Integer.MIN_VALUE, Integer.MAX_VALUE};
        for (int what : beyond) {
            CHECK.due("37: count(" + what + ")", Check.BEYOND, x.count(what));
        }
    }

    private static void status() {
        KettleInquest x = new KettleInquest();
        for (int which = -1; which < 7; which++) {
            CHECK.due("38: status(" + which + ") at first", 0, x.status(which));
        }
        for (int w = 0; w < 9; w++) {
            x.witness(0);
        }
        x.as(0, 1);
        x.as(0, 1);
        x.kettle(1, 0);
        x.boils();
        x.undo();
        x.tear();
        x.undo();
        for (int i = 0; i < 4; i++) {
            x.lays(0);
        }
        for (int i = 0; i < 5; i++) {
            x.sheet(0, 8, -1);
        }
        x.truth(256);
        long[] due = {1, 1, 2, 3, 0, 4, 5};
        for (int which = 0; which < 7; which++) {
            CHECK.due("38: status(" + which + ")", due[which], x.status(which));
        }
        CHECK.due("38: all", 16, x.status(-1));
        CHECK.due("38: another one", Check.BEYOND, x.status(7));
        CHECK.due("38: another one", Check.BEYOND, x.status(-2));
        CHECK.due("38: counted from then on", 3, x.status(0));
        CHECK.due("38: counted from then on", 18, x.status(-1));
        x.image();
        x.truth(256);
        x.undo();
        CHECK.due("38: undo takes none back", 4, x.status(0));
        Check.told(x, "?");
        CHECK.due("38: a fault is none", 19, x.status(-1));
    }
}
