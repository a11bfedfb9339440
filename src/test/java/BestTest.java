/** Promises 18 to 24: worst, turns, sure, water, kind, says, fact. */
public final class BestTest {
    private static final Check CHECK = new Check();

    public static void main(String[] args) {
        worst();
        turns();
        sure();
        water();
        kind();
        says();
        fact();
        CHECK.finish("BestTest");
    }

    private static void worst() {
        KettleInquest x = new KettleInquest();
        Check.call(x, 1, 255, 255, 3);
        CHECK.due("18: a plumber's lie at home", 0, x.worst(0));
        x.set(0, 1, 0b11101010);
        CHECK.due("18: of several the least", 1, x.worst(0));
        x.kettle(0, 12);
        CHECK.due("18: not one at which it boils and halves", 5, x.worst(0));
        x.kettle(1, 3);
        CHECK.due("18: but without water", 1, x.worst(0));
        String before = Check.seen(x);
        x.worst(0);
        CHECK.holds("18: nothing changes", before.equals(Check.seen(x)));
        x.kettle(0, 19);
        x.kettle(1, 40);
        x.set(0, 1, 255);
        CHECK.due("18: if it boils at all, most behind it", 0, x.worst(0));
        x.turn(0, 3);
        CHECK.due("18: a child: all alike", 0, x.worst(0));
        CHECK.due("18: no such one", Check.BEYOND, x.worst(1));
        CHECK.due("18: no such one", Check.BEYOND, x.worst(-1));
    }

    private static void turns() {
        KettleInquest x = new KettleInquest();
        CHECK.due("19: nobody there", Check.NONE, x.turns(60));
        Check.call(x, 0, 255, 0, 3);
        CHECK.due("19: one alone", Check.NONE, x.turns(60));
        Check.call(x, 0, 255, 255, 3);
        CHECK.due("19: a fifth lie in 9 minutes", 1, x.turns(9));
        CHECK.due("19: four, either way", Check.NONE, x.turns(8));
        x.kettle(2, 4);
        CHECK.due("19: one minute", 1, x.turns(1));
        x.kettle(2, 20);
        CHECK.due("19: five, either way", Check.NONE, x.turns(10));

        KettleInquest three = new KettleInquest();
        Check.call(three, 0, 255, 0, 3);
        Check.call(three, 0, 255, 0, 3);
        Check.call(three, 0, 255, 255, 3);
        String before = Check.seen(three);
        CHECK.due("19: 0 and 2", 2, three.turns(13));
        CHECK.due("19: of several the least", 2, three.turns(14));
        CHECK.holds("19: nothing changes", before.equals(Check.seen(three)));
        three.minutes(1);
        CHECK.due("19: 1 and 2", 12, three.turns(13));
        int[] beyond = {0, -1, 61, Integer.MAX_VALUE};
        for (int n : beyond) {
            CHECK.due("19: turns(" + n + ")", Check.BEYOND, three.turns(n));
        }
    }

    private static void sure() {
        KettleInquest x = Check.liarAlone();
        String before = Check.seen(x);
        int[][] due = {{1, 9}, {2, 8}, {3, 5}, {4, 3}, {5, 2}, {19, 0}};
        for (int[] d : due) {
            CHECK.due("20: sure(0, " + d[0] + ")", d[1], x.sure(0, d[0]));
        }
        CHECK.due("20: sure(0, 20)", Check.NONE, x.sure(0, 20));
        CHECK.due("20: sure(0, 60)", Check.NONE, x.sure(0, 60));
        CHECK.holds("20: nothing changes", before.equals(Check.seen(x)));
        x.minutes(5);
        CHECK.due("20: no more than there is now", 2, x.sure(0, 3));
        x.kettle(1, 3);
        CHECK.due("20: without water", 9, x.sure(0, 60));
        int[][] beyond = {{-1, 1}, {1, 1}, {0, 0}, {0, 61}, {0, -1}};
        for (int[] b : beyond) {
            CHECK.due("20: sure(" + b[0] + ", " + b[1] + ")", Check.BEYOND, x.sure(b[0], b[1]));
        }
        KettleInquest child = new KettleInquest();
        child.witness(3);
        child.kettle(0, 28);
        CHECK.due("20: a surer child cools it more", 9, child.sure(0, 1));
        child.kettle(0, 29);
        CHECK.due("20: none is sure enough", Check.NONE, child.sure(0, 1));
    }

    private static void water() {
        KettleInquest x = Check.liarAlone();
        String before = Check.seen(x);
        int[][] due = {{60, 0, 0}, {60, 1, 4}, {60, 2, 4}, {60, 3, 8}, {60, 13, 28}, {60, 14, 28}, {5, 2, 4}, {9, 4, 8},
            {4, 0, 0}};
        for (int[] d : due) {
            CHECK.due("21: water(" + d[0] + ", " + d[1] + ")", d[2], x.water(d[0], d[1]));
        }
        int[][] none = {{60, 15}, {4, 1}, {8, 3}, {60, 9999}};
        for (int[] b : none) {
            CHECK.due("21: water(" + b[0] + ", " + b[1] + ")", Check.NONE, x.water(b[0], b[1]));
        }
        CHECK.holds("21: nothing changes", before.equals(Check.seen(x)));
        int[][] beyond = {{0, 0}, {61, 0}, {1, -1}, {1, 10000}, {-1, 0}};
        for (int[] b : beyond) {
            CHECK.due("21: water(" + b[0] + ", " + b[1] + ")", Check.BEYOND, x.water(b[0], b[1]));
        }
        x.kettle(1, 99);
        x.kettle(2, 1);
        x.set(0, 3, 0);
        CHECK.due("21: the most there may be", 96, x.water(60, 48));
        CHECK.due("21: and no more", Check.NONE, x.water(60, 49));
        x.minutes(5);
        CHECK.due("21: tea that is there counts", 0, x.water(1, 10));
        CHECK.due("21: and one cup more", 4, x.water(1, 11));
    }

    private static void kind() {
        KettleInquest x = Check.liarAlone();
        String before = Check.seen(x);
        CHECK.due("22: in 4 minutes a witness makes none", 0, x.kind(0, 4));
        CHECK.due("22: in 5 a child", 3, x.kind(0, 5));
        CHECK.due("22: a child before a nurse", 3, x.kind(0, 60));
        CHECK.holds("22: nothing changes", before.equals(Check.seen(x)));
        x.turn(0, 1);
        CHECK.due("22: what it is now is no matter", 0, x.kind(0, 4));
        x.kettle(0, 16);
        CHECK.due("22: from 16 on a child", 3, x.kind(0, 1));
        x.set(0, 3, 0);
        x.kettle(0, 18);
        CHECK.due("22: 19 by a witness", 0, x.kind(0, 1));
        x.kettle(0, 19);
        CHECK.due("22: 20 by a witness", 3, x.kind(0, 1));
        KettleInquest nurse = new KettleInquest();
        Check.call(nurse, 0, 0, 255, 0);
        Check.call(nurse, 1, 255, 255, 0);
        nurse.kettle(0, 20);
        CHECK.due("22: all boil at once", 0, nurse.kind(0, 1));
        int[][] beyond = {{-1, 1}, {2, 1}, {0, 0}, {0, 61}};
        for (int[] b : beyond) {
            CHECK.due("22: kind(" + b[0] + ", " + b[1] + ")", Check.BEYOND, nurse.kind(b[0], b[1]));
        }
    }

    private static void says() {
        KettleInquest x = new KettleInquest();
        x.truth(255);
        Check.call(x, 0, 255, 0, 3);
        String before = Check.seen(x);
        CHECK.due("23: four lies may go unheard", 0, x.says(0, 4));
        CHECK.due("23: of five one may not", 1, x.says(0, 5));
        CHECK.due("23: of eight four may not", 15, x.says(0, 8));
        CHECK.due("23: in 20 minutes 6 and 7 may, twice", 63, x.says(0, 20));
        CHECK.holds("23: nothing changes", before.equals(Check.seen(x)));
        x.kettle(0, 16);
        CHECK.due("23: none may go unheard", 255, x.says(0, 8));
        x.kettle(0, 20);
        CHECK.due("23: the least, if it boils anyhow", 0, x.says(0, 1));
        int[][] beyond = {{-1, 1}, {1, 1}, {0, 0}, {0, 21}};
        for (int[] b : beyond) {
            CHECK.due("23: says(" + b[0] + ", " + b[1] + ")", Check.BEYOND, x.says(b[0], b[1]));
        }
    }

    private static void fact() {
        KettleInquest x = new KettleInquest();
        CHECK.due("24: nobody there", 0, x.fact(60));
        Check.call(x, 0, 255, 0, 3);
        String before = Check.seen(x);
        CHECK.due("24: all alike", 0, x.fact(60));
        CHECK.due("24: asked a fifth time", 0, x.fact(33));
        CHECK.holds("24: nothing changes", before.equals(Check.seen(x)));
        x.minutes(3);
        CHECK.due("24: only 3 is asked a fifth time", 3, x.fact(33));
        CHECK.due("24: 3 and 4 are", 3, x.fact(34));
        x.truth(0b1000);
        CHECK.due("24: any other with 3, that boils alone", 0, x.fact(33));
        KettleInquest liar = Check.liarAlone();
        liar.truth(0b100);
        CHECK.due("24: a fact that is true may be otherwise", 2, liar.fact(5));
        liar.truth(0);
        liar.kettle(2, 32);
        CHECK.due("24: each makes less than as it is", 0, liar.fact(8));
        liar.minutes(2);
        liar.truth(0b100);
        liar.kettle(2, 12);
        CHECK.due("24: one minute", 2, liar.fact(1));
        int[] beyond = {0, -1, 61};
        for (int n : beyond) {
            CHECK.due("24: fact(" + n + ")", Check.BEYOND, x.fact(n));
        }
    }
}
