/** Promises 25 to 27: feed, wipe, inquest. */
public final class TextTest {
    private static final Check CHECK = new Check();

    public static void main(String[] args) {
        feed();
        wipe();
        items();
        tokens();
        faults();
        ninth();
        faultChangesNothing();
        CHECK.finish("TextTest");
    }

    private static void feed() {
        KettleInquest x = new KettleInquest();
        int[] beyond = {0, 5, -1, Integer.MIN_VALUE, Integer.MAX_VALUE};
        for (int n : beyond) {
            CHECK.due("25: feed(0, " + n + ")", Check.BEYOND, x.feed(0, n));
        }
        CHECK.due("25: nothing came", 0, x.count(1));
        CHECK.due("25: the highest first", 4, x.feed('t' << 24 | 'r' << 16 | 'u' << 8 | 'e', 4));
        CHECK.due("25: the lowest alone", 6, x.feed('x' << 24 | 'x' << 16 | ' ' << 8 | '3', 2));
        CHECK.due("25: one item", 1, x.inquest());
        CHECK.due("25: it was read in order", 8, x.now(7));
        CHECK.due("25: three", 3, x.feed('t' << 16 | 'r' << 8 | 'u', 3));
        CHECK.due("25: one", 4, x.feed('e', 1));
        CHECK.due("25: one", 5, x.feed('1', 1));
        CHECK.due("25: one item", 1, x.inquest());
        CHECK.due("25: it was read", 10, x.now(7));
        for (int i = 1; i <= 29; i++) {
            CHECK.due("25: four more", 4 * i, x.feed(-1, 4));
        }
        CHECK.due("25: three more", 119, x.feed(-1, 3));
        CHECK.due("25: no room for two", Check.FULL, x.feed(-1, 2));
        CHECK.due("25: of what there is none", Check.BEYOND, x.feed(-1, 5));
        CHECK.due("25: nothing came", 119, x.count(1));
        CHECK.due("25: room for one", 120, x.feed(-1, 1));
        CHECK.due("25: no room for one", Check.FULL, x.feed(-1, 1));
        CHECK.due("25: bytes are not below 0, nor tokens", -1, x.inquest());
    }

    private static void wipe() {
        KettleInquest x = new KettleInquest();
        CHECK.due("26: nothing there", 0, x.wipe());
        Check.feed(x, "true 1;");
        CHECK.due("26: seven", 7, x.wipe());
        CHECK.due("26: empty now", 0, x.count(1));
        CHECK.due("26: nothing left of it", 1, Check.told(x, "true 2"));
        CHECK.due("26: nothing left of it", 4, x.now(7));
    }

    private static void items() {
        KettleInquest x = new KettleInquest();
        x.truth(0b1001);
        CHECK.due("27: four items", 4, Check.told(x, "plumber sure 9 knows 0 1 2 3 says 7 4; true 7;false 0 ; water 99"));
        CHECK.due("27: the tape is empty then", 0, x.count(1));
        CHECK.due("27: true and false", 0b10001000, x.now(7));
        CHECK.due("27: water", 99, x.now(2));
        int[] due = {1, 15, 144, 9};
        for (int what = 0; what < 4; what++) {
            CHECK.due("27: of(0, " + what + ")", due[what], x.of(0, what));
        }
        CHECK.due("27: the kinds", 6, Check.told(x, "witness;plumber;wife;child;expert;nurse"));
        for (int k = 0; k < 6; k++) {
            CHECK.due("27: kind of " + (k + 1), k, x.of(k + 1, 0));
            CHECK.due("27: knows none", 0, x.of(k + 1, 1));
            CHECK.due("27: says none", 0, x.of(k + 1, 2));
            CHECK.due("27: sure", 3, x.of(k + 1, 3));
        }
        CHECK.due("27: in order", 5, Check.told(x, "true 1;false 1;false 2;true 2;water 0"));
        CHECK.due("27: the last stands", 0b10001100, x.now(7));
        CHECK.due("27: no water", 0, x.now(2));
        CHECK.due("27: no kettle, no minute", 0, x.now(0));

        KettleInquest y = new KettleInquest();
        CHECK.due("27: parts may be left out", 4, Check.told(y, "wife says 1;wife knows 2;wife sure 0;wife sure 1 says 3 3 3 3"));
        CHECK.due("27: says alone", 2, y.of(0, 2));
        CHECK.due("27: knows alone", 4, y.of(1, 1));
        CHECK.due("27: sure alone", 0, y.of(2, 3));
        CHECK.due("27: the same fact four times", 8, y.of(3, 2));
        CHECK.due("27: no finding in all that", 0, y.status(-1));
    }

    private static void tokens() {
        String[] fit = {"true1", "  true   1  ", "true 01", "true 0000000000000000000000000000000007", "child sure9knows0 1says2",
            "true 1;true 1", "true 1 ; true 1", "water 099", "nurse;water 5", "wife knows 0 0 0 0 says 0"};
        for (String text : fit) {
            CHECK.holds("27: \"" + text + "\"", Check.told(new KettleInquest(), text) > 0);
        }
        KettleInquest x = new KettleInquest();
        Check.told(x, "child sure9knows0 1says2");
        CHECK.due("27: without blanks: knows", 3, x.of(0, 1));
        CHECK.due("27: without blanks: says", 4, x.of(0, 2));
        CHECK.due("27: without blanks: sure", 9, x.of(0, 3));
    }

    private static void faults() {
        Object[][] due = {
            {"", 0}, {"   ", 3}, {"true", 4}, {"true ", 5}, {"true 1;", 7}, {"true 1; ", 8}, {"water", 5},
            {"wife sure", 9}, {"wife knows", 10}, {"wife knows ", 11}, {"wife says", 9}, {"wife knows 1 says", 17},
            {"true 8", 5}, {"false 8", 6}, {"true x", 5}, {"true ;", 5}, {"water 100", 6}, {"water 1000", 6},
            {"water 4294967297", 6}, {"true 18446744073709551617", 5}, {"true 10", 5},
            {"wife sure 10", 10}, {"wife sure x", 10}, {"wife sure ;", 10}, {"wife knows 8", 11}, {"wife knows says 1", 11},
            {"wife knows 1 8", 13}, {"wife knows 0 1 2 3 4", 19}, {"wife knows 0 0 0 0 9", 19}, {"wife says 0 1 2 3 4", 18},
            {"wife says 1 knows 1", 12}, {"wife knows 1 sure 1", 13}, {"wife says 1 sure 1", 12}, {"wife sure 1 sure 1", 12},
            {"wife knows 1 knows 1", 13}, {"wife says 1 says 1", 12}, {"wife sure 1 2", 12}, {"wife 3", 5}, {"wife wife", 5},
            {"true 1 2", 7}, {"true 1 true 2", 7}, {"water 1 2", 8}, {"true 1 water 2", 7},
            {"kettle 5", 0}, {"wive", 0}, {"wifes", 0}, {"wif", 0}, {"life", 0}, {"rater 5", 0}, {"truefalse 1", 0}, {"True 1", 0}, {"tRue 1", 0},
            {"5", 0}, {";", 0}, {"; true 1", 0}, {"true 1;;true 2", 7}, {"true 1; 5", 8}, {"sure 5", 0}, {"knows 1", 0},
            {"true\t1", 4}, {"true 1\n", 6}, {"\ttrue 1", 0}, {"true 1,true 2", 6}, {"true -1", 5}, {"true 1;?", 7},
            {"wife sure 5 knows 1 2 says 3 4;child?", 36}, {"true 1\u00ff", 6}, {"\u0000", 0}, {"true 1;wife{", 11},
            {"true 1;`", 7}, {"true 1:", 6}, {"true 1/", 6},
        };
        for (Object[] d : due) {
            KettleInquest x = new KettleInquest();
            int place = (Integer) d[1];
            CHECK.due("27: \"" + d[0] + "\"", -1 - place, Check.told(x, (String) d[0]));
            CHECK.due("27: the tape is empty behind a fault", 0, x.count(1));
            CHECK.due("27: a fault is no finding", 0, x.status(-1));
        }
        KettleInquest x = new KettleInquest();
        StringBuilder text = new StringBuilder("true 1;");
        while (text.length() < 120) {
            text.append(' ');
        }
        CHECK.due("27: it ends too early at 120", -121, Check.told(x, text.toString()));
    }

    private static void ninth() {
        KettleInquest x = new KettleInquest();
        CHECK.due("27: eight", 8, Check.told(x, "wife;wife;wife;wife;wife;wife;wife;wife"));
        CHECK.due("27: a ninth", -1, Check.told(x, "wife"));
        CHECK.due("27: a ninth behind others", -16, Check.told(x, "true 1;water 7;wife sure 99"));
        CHECK.due("27: nothing came", 40, x.now(2));
        KettleInquest y = new KettleInquest();
        y.witness(0);
        CHECK.due("27: a ninth with those there", -36, Check.told(y, "wife;wife;wife;wife;wife;wife;wife;wife"));
        CHECK.due("27: none of these came", 1, y.count(0));
        CHECK.due("27: a fault ahead of the ninth", -6, Check.told(y, "wife;wive;wife;wife;wife;wife;wife;wife;wife"));
    }

    private static void faultChangesNothing() {
        KettleInquest x = new KettleInquest();
        Check.told(x, "nurse sure 5 knows 1; true 3; water 12");
        String before = Check.seen(x);
        CHECK.due("27: a fault at the end", -39, Check.told(x, "child; true 1; false 3; water 5; wife ?"));
        CHECK.holds("27: nothing changes", before.equals(Check.seen(x)));
        CHECK.due("27: the next text stands alone", 1, Check.told(x, "child"));
        CHECK.due("27: it is 1", 2, x.count(0));
    }
}
