/** Promises 1 to 3: a new object, truth, kettle. */
public final class KettleTest {
    private static final Check CHECK = new Check();

    public static void main(String[] args) {
        newObject();
        truth();
        kettle();
        CHECK.finish("KettleTest");
    }

    private static void newObject() {
        KettleInquest x = new KettleInquest();
        long[] first = {0, 0, 40, 0, 20, -1, 0, 0};
        for (int what = 0; what < 8; what++) {
            CHECK.due("1: now(" + what + ")", first[what], x.now(what));
        }
        CHECK.due("1: nobody there", 0, x.count(0));
        CHECK.due("1: tape empty", 0, x.count(1));
        CHECK.due("1: no finding yet", 0, x.status(-1));
        CHECK.due("1: no image", 0, x.tear());
        CHECK.due("1: nothing to undo", Check.NONE, x.undo());
        for (int s = 0; s < 4; s++) {
            CHECK.due("1: sheet " + s + " missing", Check.MISSING, x.lays(s));
        }
    }

    private static void truth() {
        KettleInquest x = new KettleInquest();
        CHECK.due("2: truth(255)", 0, x.truth(255));
        CHECK.due("2: truth(170)", 255, x.truth(170));
        CHECK.due("2: what is true", 170, x.now(7));
        String before = Check.seen(x);
        int[] beyond = {-1, 256, Integer.MIN_VALUE, Integer.MAX_VALUE};
        for (int set : beyond) {
            CHECK.due("2: truth(" + set + ")", Check.BEYOND, x.truth(set));
        }
        CHECK.holds("2: a finding changes nothing", before.equals(Check.seen(x)));
        CHECK.due("2: truth(0)", 170, x.truth(0));
    }

    private static void kettle() {
        KettleInquest x = new KettleInquest();
        CHECK.due("3: heat 99", 0, x.kettle(0, 99));
        CHECK.due("3: heat 0", 99, x.kettle(0, 0));
        CHECK.due("3: heat 7", 0, x.kettle(0, 7));
        CHECK.due("3: water 0", 40, x.kettle(1, 0));
        CHECK.due("3: water 99", 0, x.kettle(1, 99));
        CHECK.due("3: boils at 1", 20, x.kettle(2, 1));
        CHECK.due("3: boils at 99", 1, x.kettle(2, 99));
        CHECK.due("3: heat is", 7, x.now(1));
        CHECK.due("3: water is", 99, x.now(2));
        CHECK.due("3: boils at is", 99, x.now(4));
        String before = Check.seen(x);
        int[][] beyond = {{0, -1}, {0, 100}, {1, -1}, {1, 100}, {2, 0}, {2, 100}, {2, -5}, {-1, 5}, {3, 5},
            {Integer.MIN_VALUE, 5}, {0, Integer.MAX_VALUE}};
        for (int[] b : beyond) {
            CHECK.due("3: kettle(" + b[0] + ", " + b[1] + ")", Check.BEYOND, x.kettle(b[0], b[1]));
        }
        CHECK.holds("3: a finding changes nothing", before.equals(Check.seen(x)));
        x.kettle(0, 99);
        x.kettle(2, 1);
        CHECK.due("3: heat alone makes no tea", 0, x.now(3));
    }
}
