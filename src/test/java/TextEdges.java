/** Promises 25 to 27 at their edges: the tape and the text of an inquest. */
final class TextEdges {
    private static final String COURT = Edges.COURT;
    private static final String FULL_TAPE = "feed -1 4;".repeat(30);

    static void all(Edges edges) {
        feed(edges);
        feedOfBytes(edges);
        wipe(edges);
        tape(edges);
        tokens(edges);
        numbers(edges);
        blanks(edges);
        anyByte(edges);
        anyLetter(edges);
        items(edges);
        sure(edges);
        knows(edges);
        says(edges);
        trueAndFalse(edges);
        water(edges);
        faults(edges);
        ninth(edges);
        inquest(edges);
    }

    private static void feed(Edges edges) {
        edges.at(25, "(n 1 to 4): how many it has.").answers("feed 0 1 = 1; feed 0 4 = 5; feed 0 2 = 7; feed 0 3 = 10; count 1 = 10")
            .answers("feed 0 4 = 4; feed min 4 = 8; feed max 1 = 9");
        edges.at(25, "BEYOND: n.").given(COURT).refusesOutside("BEYOND", 1, 4, "feed 32 #").given("")
            .refusesOutside("BEYOND", 1, 4, "feed 32 #", "feed min #");
        edges.at(25, "FULL.").given(FULL_TAPE).refuses("FULL", "feed 32 1", "feed 32 2", "feed 32 3", "feed 32 4")
            .given("feed -1 4;".repeat(29)).answers("count 1 = 116; feed 0 4 = 120; feed 0 1 = FULL; count 1 = 120")
            .given("feed -1 4;".repeat(29) + "feed 0 1").refuses("FULL", "feed 32 4").answers("feed 32 3 = 120")
            .given("feed -1 4;".repeat(29) + "feed 0 2").refuses("FULL", "feed 32 3", "feed 32 4").answers("feed 32 2 = 120")
            .given("feed -1 4;".repeat(29) + "feed 0 3").refuses("FULL", "feed 32 2", "feed 32 3", "feed 32 4").answers("feed 32 1 = 120");
        edges.at(25, Edges.ORDER).given(FULL_TAPE).refusesOutside("BEYOND", 1, 4, "feed 32 #");
    }

    private static int bytes(String four) {
        return four.charAt(0) << 24 | four.charAt(1) << 16 | four.charAt(2) << 8 | four.charAt(3);
    }

    private static void feedOfBytes(Edges edges) {
        edges.at(25, "THE TAPE gets the n lowest bytes of a number behind it, the highest of these first (n 1 to 4)")
            .answers("feed " + bytes("true") + " 4; feed " + bytes("xxx7") + " 1; inquest = 1; now 7 = 128")
            .answers("feed " + bytes("??tr") + " 2; feed " + bytes("?ue3") + " 3; inquest = 1; now 7 = 8")
            .answers("feed " + bytes("true") + " 4; feed -208 1; inquest = 1; now 7 = 1")
            .answers("feed " + bytes("true") + " 4; feed 32 1; feed min 4; inquest = -6")
            .answers("feed -1 1; inquest = -1").answers("feed " + bytes("   \u00ff") + " 4; inquest = -4")
            .answers("feed " + bytes("  \u0080 ") + " 4; inquest = -3");
    }

    private static void wipe(Edges edges) {
        edges.at(26, "THE TAPE is empty: how many it had.").answers("wipe = 0; count 1 = 0; wipe = 0; status -1 = 0").given(FULL_TAPE)
            .answers("wipe = 120; count 1 = 0; wipe = 0; feed 0 4 = 4").given("feed 32 1").answers("wipe = 1; inquest = -1")
            .given(COURT).leavesAsIf("wipe = 6; " + Edge.feeds("wife") + "wipe = 4", "wipe").given(FULL_TAPE + "wipe").takes(1, "true 1");
    }

    private static void tape(Edges edges) {
        edges.at(27, "THE TEXT of an INQUEST, from THE TAPE (bytes, at most 120)")
            .takes(20, "true1;".repeat(19) + "true 1").takes(1, "true 1" + " ".repeat(114))
            .takes(1, " ".repeat(114) + "true 1").faultAt(119, " ".repeat(119) + ";").faultAt(120, "true1;".repeat(20))
            .faultAt(120, "true 1;" + " ".repeat(113)).faultAt(120, " ".repeat(120)).faultAt(0, "a".repeat(120)).faultAt(0, "9".repeat(120))
            .faultAt(0, "");
    }

    private static void tokens(Edges edges) {
        edges.at(27, "TOKENS, each as long as can be: WORDS (letters a to z)")
            .faultAt(0, "life", "mitness", "rurse", "drue 1", "halse 1", "later 1")
            .faultAt(5, "wife cure 1", "wife gnows 1", "wife ways 1").faultAt(0, "truefalse 1", "wifes", "wifesure 1", "wif", "w", "z", "a")
            .faultAt(5, "wife sureknows 1", "wife knowssays 1").takes(1, "wife sure1knows2says3", "water9", "true0")
            .takes(2, "wife;child", "true1;water1")
            .faultAt(0, "Wife", "WIFE", "wIfe", "wifE", "@wife", "`wife", "{wife")
            .faultAt(4, "wife{", "wife`", "wife@", "wife[", "wifeZ", "wifeA");
        edges.at(27, "SIGN ;").faultAt(5, "wife;;child", "wife;;").faultAt(4, "wife:child", "wife<child", "wife,child")
            .faultAt(6, "wife; ;child").faultAt(0, ";", ";wife", ";;").faultAt(5, "wife;");
    }

    private static void numbers(Edges edges) {
        edges.at(27, "NUMBERS (digits, 999 at most)").faultAt(6, "water 999", "water 1000", "water 1001", "water 1099", "water 4294967296",
                "water 4294967301")
            .faultAt(6, "water 18446744073709551616", "water 18446744073709551621", "water " + "9".repeat(114), "water 2147483648",
                "water 65536", "water 256")
            .faultAt(5, "true 10", "true 12", "true 70", "true 256", "true 1000", "true 4294967297")
            .faultAt(4, "true12", "true/", "true:", "true-1")
            .faultAt(11, "wife knows 12").faultAt(13, "wife knows 1 23", "wife knows 1 1000")
            .faultAt(6, "true 1/", "true 1:", "water -1", "water +1");
        edges.at(27, "NUMBERS (digits, 999 at most), SIGN ;").answers(Edge.feeds("true 007") + "inquest = 1; now 7 = 128")
            .answers(Edge.feeds("water 0000000000000000000000000000000000000000000000000099") + "inquest = 1; now 2 = 99")
            .answers(Edge.feeds("wife sure 09 knows 00 01 02 003") + "inquest = 1; of 0 3 = 9; of 0 1 = 15");
    }

    private static void blanks(Edges edges) {
        edges.at(27, "blanks may stand between").takes(2, "true 1;true 2", "true 1 ;true 2", "true 1; true 2", "  true   1  ;  true   2  ",
                "true1;true2")
            .faultAt(4, "true\t1", "true\n1", "true\r1", "true_1").faultAt(6, "true 1\n", "true 1\t")
            .faultAt(0, "\ttrue 1", "\ntrue 1", "\u00a0true 1")
            .faultAt(0, "tr ue 1").faultAt(8, "water 1 2").faultAt(7, "true 1 2").faultAt(1, " ;");
    }

    /** Every byte there is: at first, and behind an item. */
    private static void anyByte(Edges edges) {
        Edge first = edges.at(27, "a byte that begins no TOKEN");
        for (char c = 0; c < 256; c++) {
            first.faultAt(c == ' ' ? 1 : 0, "" + c);
            if (c == ' ') {
                first.takes(1, "true 1" + c);
            } else if (c >= '0' && c <= '9') {
                first.faultAt(5, "true 1" + c);
            } else {
                first.faultAt(c == ';' ? 7 : 6, "true 1" + c);
            }
        }
    }

    /** Each letter of each word that may stand there, by its neighbours in the alphabet. */
    private static void anyLetter(Edges edges) {
        Edge other = edges.at(27, "another WORD");
        for (String word : "witness plumber wife child expert nurse true false water".split(" ")) {
            other.faultAt(0, changed(word, " 1")).faultAt(0, changed(word, ""));
        }
        for (String word : "sure knows says".split(" ")) {
            for (String text : changed(word, " 1")) {
                other.faultAt(5, "wife " + text);
            }
        }
    }

    private static String[] changed(String word, String behind) {
        String[] all = new String[2 * word.length()];
        for (int i = 0; i < word.length(); i++) {
            int letter = word.charAt(i) - 'a';
            all[2 * i] = word.substring(0, i) + (char) ('a' + (letter + 1) % 26) + word.substring(i + 1) + behind;
            all[2 * i + 1] = word.substring(0, i) + (char) ('a' + (letter + 25) % 26) + word.substring(i + 1) + behind;
        }
        return all;
    }

    private static void items(Edges edges) {
        edges.at(27, "TEXT: ITEM { ; ITEM }.").takes(1, "wife", "true 1").takes(2, "wife;wife")
            .takes(8, "wife;wife;wife;wife;wife;wife;wife;wife")
            .faultAt(0, "", ";").faultAt(5, "wife;", "wife wife", "wife true 1", "wife water 1", "wife 1")
            .faultAt(7, "true 1 wife", "true 1 true 2", "true 1 2", "true 1;")
            .faultAt(7, "true 1;;").faultAt(8, "true 1; 1", "true 1; sure 1", "water 1 water 2");
        String words = "ITEM: the name of a KIND (witness plumber wife child expert nurse)";
        edges.at(27, words).answers(Edge.feeds("nurse;expert;child;wife;plumber;witness")
                + "inquest = 6; count 0 = 6; of 0 0 = 5; of 1 0 = 4; of 2 0 = 3;"
            + "of 3 0 = 2; of 4 0 = 1; of 5 0 = 0; of 0 1 = 0; of 0 2 = 0; of 0 3 = 3; of 5 1 = 0; of 5 2 = 0; of 5 3 = 3")
            .faultAt(0, "witnes", "witnesss", "plumbers", "plumbe", "children", "chil", "experts", "nurs", "nursex", "kettle", "inquest");
    }

    private static void sure(Edges edges) {
        edges.at(27, "perhaps sure and a NUMBER (0 to 9)").answers(Edge.feeds("wife sure 0;wife sure 9;wife")
                + "inquest = 3; of 0 3 = 0; of 1 3 = 9; of 2 3 = 3")
            .faultAt(10, "wife sure 10", "wife sure 99", "wife sure 999", "wife sure ;", "wife sure knows 1", "wife sure sure",
                "wife sure ", "wife sure -1")
            .faultAt(9, "wife sure").faultAt(12, "wife sure 1 2", "wife sure 1 sure 2", "wife sure 9 child").faultAt(11, "wife sure 1?")
            .faultAt(0, "sure 1");
    }

    private static void knows(Edges edges) {
        edges.at(27, "perhaps knows and 1 to 4 NUMBERS (FACTS)")
            .answers(Edge.feeds("wife knows 0;wife knows 7;wife knows 4 5 6 7;wife knows 3 3 3 3")
                + "inquest = 4; of 0 1 = 1; of 1 1 = 128; of 2 1 = 240; of 3 1 = 8")
            .answers(Edge.feeds("wife knows 1 2;child") + "inquest = 2; of 0 1 = 6; of 0 2 = 0; of 0 3 = 3; of 1 1 = 0")
            .faultAt(10, "wife knows").faultAt(11, "wife knows ", "wife knows 8", "wife knows 9", "wife knows ;", "wife knows says 1",
                "wife knows knows", "wife knows 10")
            .faultAt(13, "wife knows 1 8", "wife knows 1 sure 1", "wife knows 1 knows 1", "wife knows 1 child")
            .faultAt(17, "wife knows 0 1 2 8");
        edges.at(27, "is a fifth of FACTS").faultAt(19, "wife knows 0 1 2 3 4", "wife knows 0 0 0 0 0", "wife knows 0 1 2 3 8",
                "wife knows 0 1 2 3 4 5", "wife knows 0 1 2 3 999")
            .faultAt(18, "wife says 0 1 2 3 4", "wife says 7 7 7 7 7", "wife says 0 1 2 3 9").takes(1, "wife knows 0 1 2 3 says 4 5 6 7");
    }

    private static void says(Edges edges) {
        edges.at(27, "perhaps says and 1 to 4 NUMBERS (FACTS): one more")
            .answers(Edge.feeds("wife says 0;wife says 7;wife says 4 5 6 7;wife says 3 3 3 3")
                + "inquest = 4; of 0 2 = 1; of 1 2 = 128; of 2 2 = 240; of 3 2 = 8; count 0 = 4")
            .answers(Edge.feeds("wife sure 1 knows 2 says 3") + "inquest = 1; of 0 3 = 1; of 0 1 = 4; of 0 2 = 8")
            .answers(Edge.feeds("wife sure 1 says 3;wife knows 2 says 3")
                + "inquest = 2; of 0 1 = 0; of 0 2 = 8; of 0 3 = 1; of 1 1 = 4; of 1 2 = 8; of 1 3 = 3")
            .faultAt(9, "wife says").faultAt(10, "wife says ", "wife says 8", "wife says ;", "wife says says 1", "wife says 1000")
            .faultAt(12, "wife says 1 8", "wife says 1 knows 1", "wife says 1 sure 1", "wife says 1 says 1", "wife says 1 child")
            .faultAt(17, "wife knows 1 says");
    }

    private static void trueAndFalse(Edges edges) {
        edges.at(27, "true or false, a NUMBER (a FACT): so it is").given("truth 170")
            .answers(Edge.feeds("true 0;false 7") + "inquest = 2; now 7 = 43")
            .answers(Edge.feeds("true 7;false 0") + "inquest = 2; now 7 = 170")
            .answers(Edge.feeds("true 0;false 0") + "inquest = 2; now 7 = 170")
            .answers(Edge.feeds("false 1;true 1") + "inquest = 2; now 7 = 170")
            .faultAt(5, "true 8", "true 9", "true 99", "true true", "true ;", "true ", "true wife")
            .faultAt(6, "false 8", "false 10", "false true 1", "false ").faultAt(4, "true", "true;").faultAt(5, "false", "false;")
            .faultAt(7, "true 1 2").faultAt(8, "false 1 2");
    }

    private static void water(Edges edges) {
        edges.at(27, "water and a NUMBER (0 to 99)").answers(Edge.feeds("water 0") + "inquest = 1; now 2 = 0")
            .answers(Edge.feeds("water 99") + "inquest = 1; now 2 = 99")
            .answers(Edge.feeds("water 9;water 7") + "inquest = 2; now 2 = 7; count 0 = 0; now 1 = 0")
            .faultAt(6, "water 100", "water 999", "water ;", "water water", "water ")
            .faultAt(5, "water", "water;").faultAt(8, "water 1 2", "water 9 wife").faultAt(9, "water 99 0");
    }

    private static void faults(Edges edges) {
        String words = "FAULT: the place (from 0) of the first byte of the first TOKEN that can't stand there (a NUMBER that may not be"
            + " or is a fifth of FACTS, another WORD, a byte that begins no TOKEN, the name of a KIND for a 9th: its own)";
        edges.at(27, words).faultAt(0, "kettle", "8", "?", "says 1").faultAt(3, "   kettle", "   8", "   ?")
            .faultAt(9, "true 1 ; kettle; true 9; ?")
            .faultAt(8, "true 1; rue 9").faultAt(12, "true 1;true 8").faultAt(5, "true 8;kettle;?").faultAt(14, "wife sure 1 ; ?")
            .faultAt(20, "wife sure 1 knows 2 ?says 4").faultAt(7, "true 1;?;kettle;true 8");
        edges.at(27, "or how many bytes there are if it ends too early.").faultAt(0, "").faultAt(1, " ").faultAt(4, "true", "    ")
            .faultAt(5, "true ", "wife;", "water", "false")
            .faultAt(8, "wife;   ", "true    ").faultAt(9, "wife sure", "wife says").faultAt(10, "wife knows")
            .faultAt(17, "wife knows 1 says").faultAt(120, "true" + " ".repeat(116));
    }

    private static void ninth(Edges edges) {
        edges.at(27, "the name of a KIND for a 9th: its own").given(Edges.EIGHT)
            .faultAt(0, "wife", "nurse sure 9", "wife sure 10", "wife;kettle")
            .faultAt(7, "true 1;wife", "true 1;child sure 99").faultAt(0, "kettle;wife").faultAt(12, "true 1;true 8;wife")
            .takes(3, "true 1;water 5;false 2")
            .given("witness 0;".repeat(7)).takes(1, "wife").takes(2, "true 1;wife sure 9").faultAt(5, "wife;wife")
            .faultAt(6, "wife; child sure 3")
            .given("").faultAt(40, "wife;".repeat(8) + "wife").faultAt(41, "wife;".repeat(8) + " nurse sure 1")
            .takes(9, "wife;".repeat(8) + "true 1");
    }

    private static void inquest(Edges edges) {
        edges.at(27, "THE TAPE is THE TEXT of an INQUEST, whose ITEMS come to what there is, and empty then: how many ITEMS.")
            .given("truth 1; witness 3; set 0 1 9; minutes 3; kettle 0 9; kettle 2 30;")
            .answers(Edge.feeds("wife sure 9; true 7") + "inquest = 2; count 1 = 0; count 0 = 2; of 0 0 = 3; of 0 1 = 9; of 1 0 = 2;"
                + "now 7 = 129; now 0 = 3; now 1 = 9; now 4 = 30; now 2 = 40")
            .answers(Edge.feeds("true 7") + "inquest = 1; inquest = -1; now 7 = 129")
            .answers(Edge.feeds("true 7") + "inquest = 1; " + Edge.feeds("true 6") + "inquest = 1; now 7 = 193");
        String words = "With a FAULT: -1 less its place (nothing changes but that THE TAPE is empty; no finding).";
        edges.at(27, words).answers("inquest = -1; status -1 = 0").given(COURT + ";wipe")
            .leavesAsIf(Edge.feeds("nurse sure 9 knows 1 says 2;true 0;false 1;water 5;kettle") + "inquest = -52", "")
            .leavesAsIf(Edge.feeds("water 5;true 0;wife sure") + "inquest = -25", "")
            .leavesAsIf(Edge.feeds("child;".repeat(6)) + "inquest = -31", "")
            .leavesAsIf("inquest = -1", "").leavesAsIf("feed 63 1; inquest = -1; inquest = -1", "");
    }
}
