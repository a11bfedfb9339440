/** Promises 4 to 11: witness, of, set, turn, as, heats, ask, swap. */
public final class WitnessTest {
    private static final Check CHECK = new Check();
    // Not right in 1 2 5 6; so with the facts 0 to 3 known it lies in 1 2, is lucky in 4 7, wrong in 5 6.
    private static final int TRUE = 0b00110011;
    private static final int SAYS = 0b01010101;

    public static void main(String[] args) {
        witness();
        of();
        set();
        turn();
        as();
        heats();
        heatsByOthers();
        ask();
        learns();
        swap();
        CHECK.finish("WitnessTest");
    }

    private static KettleInquest oneOf(int kind, int knows, int sure) {
        KettleInquest x = new KettleInquest();
        x.truth(TRUE);
        Check.call(x, kind, knows, SAYS, sure);
        return x;
    }

    private static void witness() {
        KettleInquest x = new KettleInquest();
        CHECK.due("4: kind -1", Check.BEYOND, x.witness(-1));
        CHECK.due("4: kind 6", Check.BEYOND, x.witness(6));
        CHECK.due("4: nobody came", 0, x.count(0));
        for (int w = 0; w < 8; w++) {
            CHECK.due("4: one more", w, x.witness(w % 6));
            CHECK.due("4: its kind", w % 6, x.of(w, 0));
            CHECK.due("4: knows nothing", 0, x.of(w, 1));
            CHECK.due("4: says nothing", 0, x.of(w, 2));
            CHECK.due("4: sure", 3, x.of(w, 3));
        }
        CHECK.due("4: a ninth", Check.FULL, x.witness(0));
        CHECK.due("4: a ninth of no kind", Check.BEYOND, x.witness(6));
        CHECK.due("4: still eight", 8, x.count(0));
    }

    private static void of() {
        KettleInquest x = oneOf(1, 15, 7);
        long[] due = {1, 15, SAYS, 7, 0b00000110, 0b10010000, 0b01100000, 2};
        for (int what = 0; what < 8; what++) {
            CHECK.due("5: of(0, " + what + ")", due[what], x.of(0, what));
        }
        int[] doubts = {1, 2, 1, 0, 0, 1};
        for (int k = 0; k < 6; k++) {
            x.turn(0, k);
            CHECK.due("5: doubts of kind " + k, doubts[k], x.of(0, 7));
        }
        x.turn(0, 1);
        x.set(0, 3, 0);
        CHECK.due("5: doubts, of one that isn't sure", 2, x.of(0, 7));
        int[][] beyond = {{-1, 0}, {1, 0}, {0, -1}, {0, 8}, {Integer.MAX_VALUE, 0}, {0, Integer.MIN_VALUE}};
        for (int[] b : beyond) {
            CHECK.due("5: of(" + b[0] + ", " + b[1] + ")", Check.BEYOND, x.of(b[0], b[1]));
        }
    }

    private static void set() {
        KettleInquest x = new KettleInquest();
        x.witness(2);
        CHECK.due("6: knows", 0, x.set(0, 1, 255));
        CHECK.due("6: knows again", 255, x.set(0, 1, 1));
        CHECK.due("6: says", 0, x.set(0, 2, 255));
        CHECK.due("6: says again", 255, x.set(0, 2, 2));
        CHECK.due("6: sure", 3, x.set(0, 3, 9));
        CHECK.due("6: sure again", 9, x.set(0, 3, 0));
        CHECK.due("6: it knows", 1, x.of(0, 1));
        CHECK.due("6: it says", 2, x.of(0, 2));
        CHECK.due("6: it is sure", 0, x.of(0, 3));
        String before = Check.seen(x);
        int[][] beyond = {{0, 0, 1}, {0, 4, 1}, {0, -1, 1}, {0, 1, -1}, {0, 1, 256}, {0, 2, -1}, {0, 2, 256},
            {0, 3, -1}, {0, 3, 10}, {-1, 1, 1}, {1, 1, 1}};
        for (int[] b : beyond) {
            CHECK.due("6: set(" + b[0] + ", " + b[1] + ", " + b[2] + ")", Check.BEYOND, x.set(b[0], b[1], b[2]));
        }
        CHECK.holds("6: a finding changes nothing", before.equals(Check.seen(x)));
    }

    private static void turn() {
        KettleInquest x = oneOf(0, 15, 7);
        CHECK.due("7: to a nurse", 0, x.turn(0, 5));
        CHECK.due("7: to a child", 5, x.turn(0, 3));
        CHECK.due("7: to what it is", 3, x.turn(0, 3));
        CHECK.due("7: it is a child", 3, x.of(0, 0));
        CHECK.due("7: it knows what it did", 15, x.of(0, 1));
        CHECK.due("7: it says what it did", SAYS, x.of(0, 2));
        CHECK.due("7: it is as sure", 7, x.of(0, 3));
        int[][] beyond = {{0, -1}, {0, 6}, {-1, 0}, {1, 0}};
        for (int[] b : beyond) {
            CHECK.due("7: turn(" + b[0] + ", " + b[1] + ")", Check.BEYOND, x.turn(b[0], b[1]));
        }
        CHECK.due("7: a finding changes nothing", 3, x.of(0, 0));
    }

    private static void as() {
        int[] under = {0b000001, 0b000011, 0b000101, 0b001001, 0b010011, 0b100101};
        for (int k = 0; k < 6; k++) {
            KettleInquest x = oneOf(k, 0, 8);
            for (int wanted = 0; wanted < 6; wanted++) {
                long due = (under[k] >> wanted & 1) == 1 ? 8 : Check.KIND;
                CHECK.due("8: kind " + k + " as " + wanted, due, x.as(0, wanted));
            }
            CHECK.due("8: no such kind", Check.BEYOND, x.as(0, 6));
            CHECK.due("8: no such kind", Check.BEYOND, x.as(0, -1));
            CHECK.due("8: no such one", Check.BEYOND, x.as(1, 0));
            CHECK.due("8: no such one", Check.BEYOND, x.as(-1, 0));
        }
    }

    private static void heats() {
        int[][] due = {
            {0, 8, 8, 0, 3, 0, 0, 3},
            {0, 13, 13, 0, 3, 0, 0, 3},
            {0, 8, 8, 0, 3, 0, 0, 3},
            {-7, -7, -7, -7, -7, -7, -7, -7},
            {0, 6, 6, 0, 1, 1, 1, 1},
            {0, 8, 8, 0, 3, 0, 0, 3},
        };
        for (int k = 0; k < 6; k++) {
            KettleInquest x = oneOf(k, 15, 7);
            String before = Check.seen(x);
            for (int f = 0; f < 8; f++) {
                CHECK.due("9: kind " + k + " in fact " + f, 100 + due[k][f], x.heats(0, f));
            }
            CHECK.holds("9: it is only asked", before.equals(Check.seen(x)));
            int[][] beyond = {{0, -1}, {0, 8}, {-1, 0}, {1, 0}};
            for (int[] b : beyond) {
                CHECK.due("9: heats(" + b[0] + ", " + b[1] + ")", Check.BEYOND, x.heats(b[0], b[1]));
            }
        }
        KettleInquest plumber = oneOf(1, 255, 7);
        int[] far = {100, 113, 113, 100, 100, 108, 108, 100};
        for (int f = 0; f < 8; f++) {
            CHECK.due("9: a plumber that knows all, in " + f, far[f], plumber.heats(0, f));
        }
        KettleInquest fourth = new KettleInquest();
        Check.call(fourth, 1, 255, 255, 0);
        CHECK.due("9: a plumber in fact 3", 106, fourth.heats(0, 3));
        CHECK.due("9: a plumber in fact 4", 101, fourth.heats(0, 4));
    }

    private static void heatsByOthers() {
        int[] others = {0, 1, 0, 0, 1, 0};
        for (int other = 0; other < 6; other++) {
            for (int k = 2; k <= 5; k += 3) {
                KettleInquest x = oneOf(k, 15, 7);
                Check.call(x, other, 0b00100010, SAYS, 3);
                long more = others[other];
                CHECK.due("9: " + k + " beside " + other + ", both lie", 108 + more, x.heats(0, 1));
                CHECK.due("9: " + k + " beside " + other + ", it lies", 100 + more, x.heats(0, 5));
                CHECK.due("9: " + k + " beside " + other + ", none lies there", 103, x.heats(0, 4));
                CHECK.due("9: " + k + " beside " + other + ", the other doesn't", 108, x.heats(0, 2));
                x.swap(0, 1);
                CHECK.due("9: " + k + " behind " + other, 100 + more, x.heats(1, 5));
            }
        }
        KettleInquest nurse = oneOf(5, 15, 7);
        nurse.kettle(0, 15);
        CHECK.due("9: a nurse at 15", 108, nurse.heats(0, 1));
        nurse.kettle(0, 16);
        CHECK.due("9: a nurse at 16", 100, nurse.heats(0, 1));
        CHECK.due("9: a nurse at 16, lucky", 100, nurse.heats(0, 4));
        nurse.turn(0, 2);
        CHECK.due("9: a wife at 16", 108, nurse.heats(0, 1));
    }

    private static void ask() {
        KettleInquest x = oneOf(1, 15, 1);
        CHECK.due("10: 7 hot", 0, x.ask(0, 1));
        CHECK.due("10: 14 hot", 0, x.ask(0, 2));
        CHECK.due("10: heat", 14, x.now(1));
        CHECK.due("10: no minute goes", 0, x.now(0));
        CHECK.due("10: it boils at 21", 1, x.ask(0, 1));
        CHECK.due("10: half the heat, cut", 10, x.now(1));
        CHECK.due("10: two cups", 2, x.now(3));
        CHECK.due("10: water", 36, x.now(2));
        CHECK.due("10: less sure, 0 at least", 0, x.of(0, 3));
        x.kettle(0, 13);
        x.kettle(1, 4);
        CHECK.due("10: at 19 it doesn't", 0, x.ask(0, 1));
        x.kettle(0, 14);
        CHECK.due("10: just at 20 with just 4 it does", 1, x.ask(0, 1));
        CHECK.due("10: water is out", 0, x.now(2));
        x.kettle(0, 97);
        x.kettle(1, 3);
        CHECK.due("10: with 3 it doesn't", 0, x.ask(0, 1));
        CHECK.due("10: held to 99", 99, x.now(1));
        CHECK.due("10: no doubt without boiling", 4, x.now(3));
        KettleInquest child = oneOf(3, 15, 9);
        child.kettle(0, 5);
        CHECK.due("10: a child", 0, child.ask(0, 1));
        CHECK.due("10: held to 0", 0, child.now(1));
        child.kettle(0, 29);
        CHECK.due("10: a child at 29 that cools to 20", 1, child.ask(0, 1));
        CHECK.due("10: a child doesn't doubt", 9, child.of(0, 3));
        String before = Check.seen(child);
        int[][] beyond = {{0, -1}, {0, 8}, {-1, 0}, {1, 0}};
        for (int[] b : beyond) {
            CHECK.due("10: ask(" + b[0] + ", " + b[1] + ")", Check.BEYOND, child.ask(b[0], b[1]));
        }
        CHECK.holds("10: a finding changes nothing", before.equals(Check.seen(child)));
    }

    private static void learns() {
        boolean[] byBoiling = {false, false, true, false, false, true};
        for (int k = 0; k < 6; k++) {
            KettleInquest x = oneOf(k, 0, 0);
            x.ask(0, 4);
            CHECK.due("10: kind " + k + " learns by luck", k == 4 ? 16 : 0, x.of(0, 1));
            x.ask(0, 5);
            CHECK.due("10: kind " + k + " learns by being wrong", k == 4 ? 16 : 0, x.of(0, 1));
            x.set(0, 1, 1);
            x.kettle(0, 40);
            CHECK.due("10: it boils", 1, x.ask(0, 5));
            CHECK.due("10: kind " + k + " learns by boiling", byBoiling[k] ? 33 : 1, x.of(0, 1));
        }
        KettleInquest expert = oneOf(4, 0, 9);
        expert.kettle(0, 40);
        expert.ask(0, 7);
        CHECK.due("10: an expert learns by luck when it boils, too", 128, expert.of(0, 1));
        CHECK.due("10: an expert doesn't doubt", 9, expert.of(0, 3));
    }

    private static void swap() {
        KettleInquest x = new KettleInquest();
        Check.call(x, 1, 2, 3, 4);
        Check.call(x, 5, 6, 7, 8);
        Check.call(x, 2, 9, 10, 1);
        CHECK.due("11: swap(0, 2)", 1, x.swap(0, 2));
        int[][] due = {{2, 9, 10, 1}, {5, 6, 7, 8}, {1, 2, 3, 4}};
        for (int w = 0; w < 3; w++) {
            for (int what = 0; what < 4; what++) {
                CHECK.due("11: of(" + w + ", " + what + ")", due[w][what], x.of(w, what));
            }
        }
        CHECK.due("11: swap(2, 1)", 1, x.swap(2, 1));
        CHECK.due("11: the plumber is 1", 1, x.of(1, 0));
        String before = Check.seen(x);
        int[][] beyond = {{0, 0}, {2, 2}, {-1, 0}, {0, -1}, {0, 3}, {3, 0}, {3, 3}};
        for (int[] b : beyond) {
            CHECK.due("11: swap(" + b[0] + ", " + b[1] + ")", Check.BEYOND, x.swap(b[0], b[1]));
        }
        CHECK.holds("11: a finding changes nothing", before.equals(Check.seen(x)));
    }
}
