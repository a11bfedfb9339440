/** Promises 12 to 17: minutes, now, on, then, boils, doubts. */
public final class MinuteTest {
    private static final Check CHECK = new Check();

    public static void main(String[] args) {
        minutes();
        minutesAtTheEnd();
        teaAtTheMost();
        now();
        on();
        then();
        boils();
        doubts();
        CHECK.finish("MinuteTest");
    }

    private static void minutes() {
        KettleInquest x = Check.liarAlone();
        CHECK.due("12: minutes(4)", 0, x.minutes(4));
        CHECK.due("12: heat", 16, x.now(1));
        CHECK.due("12: minutes(1)", 2, x.minutes(1));
        CHECK.due("12: heat", 10, x.now(1));
        CHECK.due("12: sure", 2, x.of(0, 3));
        CHECK.due("12: minutes(9)", 6, x.minutes(9));
        CHECK.due("12: minute", 14, x.now(0));
        CHECK.due("12: minutes(100)", 20, x.minutes(100));
        CHECK.due("12: water is out", 0, x.now(2));
        CHECK.due("12: heat", 10 + 114 - 84, x.now(1));
        String before = Check.seen(x);
        int[] beyond = {0, -1, 101, Integer.MIN_VALUE, Integer.MAX_VALUE};
        for (int n : beyond) {
            CHECK.due("12: minutes(" + n + ")", Check.BEYOND, x.minutes(n));
        }
        CHECK.holds("12: a finding changes nothing", before.equals(Check.seen(x)));

        KettleInquest empty = new KettleInquest();
        empty.kettle(0, 99);
        CHECK.due("12: nobody there", 0, empty.minutes(60));
        CHECK.due("12: it cools by 1", 39, empty.now(1));
        empty.minutes(100);
        CHECK.due("12: to 0 at least", 0, empty.now(1));
        CHECK.due("12: and time goes", 160, empty.now(0));

        KettleInquest two = new KettleInquest();
        Check.call(two, 0, 255, 255, 9);
        Check.call(two, 0, 0b10, 0b10, 1);
        int[] heat = {10, 10, 20, 22, 32, 32};
        two.kettle(2, 99);
        for (int m = 0; m < heat.length; m++) {
            two.minutes(1);
            CHECK.due("12: turn by turn, fact by fact, minute " + m, heat[m], two.now(1));
        }
    }

    /** More calls than one object is used for: the end of time can't be seen sooner. */
    private static void minutesAtTheEnd() {
        KettleInquest x = new KettleInquest();
        for (int i = 0; i < 999; i++) {
            x.minutes(100);
        }
        CHECK.due("12: above 99999", Check.STATE, x.minutes(100));
        CHECK.due("12: no minute went", 99900, x.now(0));
        CHECK.due("12: beyond comes first", Check.BEYOND, x.minutes(101));
        CHECK.due("12: just to 99999", 0, x.minutes(99));
        CHECK.due("12: one more", Check.STATE, x.minutes(1));
        CHECK.due("12: on goes on", 0, x.on(200, 0));
    }

    private static void teaAtTheMost() {
        KettleInquest x = new KettleInquest();
        Check.call(x, 0, 255, 255, 0);
        x.kettle(2, 1);
        int tea = 0;
        for (int round = 0; round < 209; round++) {
            x.kettle(1, 99);
            tea = x.minutes(24);
        }
        CHECK.due("12: tea is held to 9999", 9999, tea);
        x.kettle(1, 99);
        CHECK.due("14: tea on", 9999, x.on(20, 2));
        CHECK.due("16: it boils all the same", 1, x.boils());
        CHECK.due("20: tea isn't more, however sure", 9, x.sure(0, 60));
        CHECK.due("21: tea is there without water", 0, x.water(60, 9999));
        CHECK.due("22: kinds make no odds", 0, x.kind(0, 60));
    }

    private static void now() {
        KettleInquest x = new KettleInquest();
        x.kettle(0, 50);
        x.minutes(13);
        CHECK.due("13: nobody's turn", -1, x.now(5));
        CHECK.due("13: no fact", 0, x.now(6));
        x.witness(3);
        CHECK.due("13: one alone", 0, x.now(5));
        CHECK.due("13: 13, the rest by 8", 5, x.now(6));
        x.witness(3);
        x.witness(3);
        CHECK.due("13: 13 by 3: the rest", 1, x.now(5));
        CHECK.due("13: 13 by 3: cut", 4, x.now(6));
        x.minutes(15);
        x.truth(9);
        x.kettle(0, 16);
        x.kettle(2, 21);
        long[] due = {28, 16, 36, 2, 21, 1, 1, 9};
        for (int what = 0; what < 8; what++) {
            CHECK.due("13: now(" + what + ")", due[what], x.now(what));
        }
        int[] beyond = {-1, 8, Integer.MIN_VALUE, Integer.MAX_VALUE};
        for (int what : beyond) {
            CHECK.due("13: now(" + what + ")", Check.BEYOND, x.now(what));
        }
    }

    private static void on() {
        KettleInquest x = Check.liarAlone();
        String before = Check.seen(x);
        int[][] due = {{0, 0, 40, 0}, {1, 4, 40, 0}, {4, 16, 40, 0}, {5, 10, 36, 2}, {8, 19, 36, 2}, {9, 11, 32, 4},
            {13, 19, 32, 4}, {14, 10, 28, 6}, {23, 19, 28, 6}, {24, 10, 24, 8}, {83, 19, 4, 18}, {84, 10, 0, 20},
            {172, 98, 0, 20}, {173, 99, 0, 20}, {200, 99, 0, 20}};
        for (int[] d : due) {
            for (int what = 0; what < 3; what++) {
                CHECK.due("14: on(" + d[0] + ", " + what + ")", d[1 + what], x.on(d[0], what));
            }
        }
        int[][] beyond = {{-1, 0}, {201, 0}, {0, -1}, {0, 3}, {Integer.MAX_VALUE, 0}, {Integer.MIN_VALUE, 0}};
        for (int[] b : beyond) {
            CHECK.due("14: on(" + b[0] + ", " + b[1] + ")", Check.BEYOND, x.on(b[0], b[1]));
        }
        CHECK.holds("14: nothing changes", before.equals(Check.seen(x)));
        KettleInquest empty = new KettleInquest();
        empty.kettle(0, 99);
        CHECK.due("14: nobody there", 0, empty.on(200, 0));
        CHECK.due("14: nobody there", 1, empty.on(98, 0));
    }

    private static void then() {
        KettleInquest x = Check.liarAlone();
        int[][] due = {{0, 3}, {4, 3}, {5, 2}, {8, 2}, {9, 1}, {13, 1}, {14, 0}, {200, 0}};
        String before = Check.seen(x);
        for (int[] d : due) {
            CHECK.due("15: then(0, " + d[0] + ", 0)", d[1], x.then(0, d[0], 0));
            CHECK.due("15: then(0, " + d[0] + ", 1)", 255, x.then(0, d[0], 1));
        }
        int[][] beyond = {{-1, 0, 0}, {1, 0, 0}, {0, -1, 0}, {0, 201, 0}, {0, 0, -1}, {0, 0, 2}};
        for (int[] b : beyond) {
            CHECK.due("15: then(" + b[0] + ", " + b[1] + ", " + b[2] + ")", Check.BEYOND, x.then(b[0], b[1], b[2]));
        }
        CHECK.holds("15: nothing changes", before.equals(Check.seen(x)));
        KettleInquest expert = new KettleInquest();
        Check.call(expert, 4, 0, 0b100, 0);
        int[] knows = {0, 1, 3, 3, 11, 27, 59, 123, 251, 251};
        for (int n = 0; n < knows.length; n++) {
            CHECK.due("15: what an expert knows on " + n, knows[n], expert.then(0, n, 1));
        }
    }

    private static void boils() {
        KettleInquest x = Check.liarAlone();
        String before = Check.seen(x);
        CHECK.due("16: boils()", 5, x.boils());
        CHECK.holds("16: nothing changes", before.equals(Check.seen(x)));
        x.minutes(5);
        CHECK.due("16: the next", 4, x.boils());
        x.kettle(0, 99);
        CHECK.due("16: at once", 1, x.boils());
        x.kettle(1, 3);
        CHECK.due("16: without water", Check.NONE, x.boils());
        CHECK.due("16: nobody there", Check.NONE, new KettleInquest().boils());
        KettleInquest far = new KettleInquest();
        Check.call(far, 0, 1, 1, 0);
        far.kettle(2, 25);
        CHECK.due("16: one a round, 25 rounds", 193, far.boils());
        far.kettle(2, 26);
        CHECK.due("16: 26 rounds are too far", Check.NONE, far.boils());
        far.minutes(1);
        CHECK.due("16: just 200", 200, far.boils());
        far.kettle(2, 27);
        CHECK.due("16: 208 are too far", Check.NONE, far.boils());
    }

    private static void doubts() {
        KettleInquest x = Check.liarAlone();
        CHECK.due("17: doubts(0)", 14, x.doubts(0));
        x.set(0, 3, 0);
        CHECK.due("17: isn't sure now", 0, x.doubts(0));
        KettleInquest plumber = new KettleInquest();
        Check.call(plumber, 1, 255, 255, 9);
        CHECK.due("17: no such one", Check.BEYOND, plumber.doubts(1));
        CHECK.due("17: no such one", Check.BEYOND, plumber.doubts(-1));
        plumber.kettle(2, 1);
        CHECK.due("17: a plumber, 9 7 5 3 1 0", 5, plumber.doubts(0));
        plumber.turn(0, 3);
        CHECK.due("17: a child never", Check.NONE, plumber.doubts(0));
        KettleInquest last = new KettleInquest();
        Check.call(last, 0, 1, 1, 1);
        last.kettle(2, 50);
        CHECK.due("17: 2 a round, 25 rounds", 193, last.doubts(0));
        last.kettle(2, 51);
        CHECK.due("17: 26 rounds are too far", Check.NONE, last.doubts(0));
        CHECK.due("17: nothing changes", 1, last.of(0, 3));
        last.minutes(1);
        last.kettle(2, 52);
        CHECK.due("17: just 200", 200, last.doubts(0));
        last.kettle(2, 53);
        CHECK.due("17: 208 are too far", Check.NONE, last.doubts(0));
    }
}
