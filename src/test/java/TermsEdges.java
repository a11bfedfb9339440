/** The document's "Terms" at their edges: findings, sections 1 (but the text), 2 and 3; each by the promise that shows them. */
final class TermsEdges {
    /** Knows 0 to 3: right in 0 3, lies in 1 2, lucky in 4 7, wrong in 5 6. */
    private static final String NEAR = "truth 51; set 0 1 15; set 0 2 85;";
    /** Knows 4 to 7: lucky in 0 3, wrong in 1 2, right in 4 7, lies in 5 6. */
    private static final String FAR = "truth 51; set 0 1 240; set 0 2 85;";

    static void all(Edges edges) {
        findings(edges);
        atFirst(edges);
        states(edges);
        heatsOfWitness(edges);
        heatsOfPlumber(edges);
        heatsOfWife(edges);
        heatsOfChild(edges);
        heatsOfExpert(edges);
        heatsOfNurse(edges);
        learns(edges);
        doubts(edges);
        answer(edges);
        answerThatBoils(edges);
        minute(edges);
        tea(edges);
        on(edges);
    }

    private static String sure(int kind, int sure, String facts) {
        return "witness " + kind + "; set 0 3 " + sure + ";" + facts;
    }

    private static void findings(Edges edges) {
        edges.at(38, "FINDINGS are answers below -1000000000: -1000000001 BEYOND, -1000000002 FULL, -1000000003 KIND, -1000000004 NONE")
            .given(Edges.EIGHT)
            .answers("truth 256 = -1000000001; status 0 = 1; witness 0 = -1000000002; status 1 = 1; as 0 1 = -1000000003; status 2 = 1;"
                + "undo = -1000000004; status 3 = 1; status -1 = 4");
        edges.at(38, "-1000000006 MISSING, -1000000007 SIZE")
            .answers("lays 0 = -1000000006; status 5 = 1; sheet 0 8 -1 = -1000000007; status 6 = 1; status -1 = 2");
        edges.at(12, "-1000000005 STATE").given("minutes 100;".repeat(1000 - 1) + "minutes 99").withMoreCalls()
            .answers("minutes 1 = -1000000005; status 4 = 1; status -1 = 1");
        edges.at(29, "(in longs, too)").given("sheet 0 64 1; write 0 0 -1000000001")
            .answers("write 4 0 0 = -1000000001; write 1 0 0 = -1000000006; write 0 1 0 = -1000000001; status -1 = 3;"
                + "write 0 0 -1000000006 = -1000000001; write 0 0 0 = -1000000006; status -1 = 3");
        edges.at(2, "one that answers a finding changes nothing but status()").given(Edges.COURT).refuses("BEYOND", "truth 256");
        edges.at(13, "Sets are told by bits.").given(Edge.feeds("true 0; true 7") + "inquest").answers("now 7 = 129")
            .answers("truth 0 = 129; now 7 = 0");
    }

    private static void atFirst(Edges edges) {
        edges.at(1, "FACTS 0 to 7, each TRUE (1) or not (0; at first)").answers("now 7 = 0; truth 255 = 0; now 7 = 255");
        edges.at(1, "MINUTE: 0 at first (99999 at most)").answers("now 0 = 0");
        edges.at(1, "HEAT (0 to 99; 0 at first)").answers("now 1 = 0; kettle 0 0 = 0");
        edges.at(1, "WATER (0 to 99; 40 at first)").answers("now 2 = 40; kettle 1 0 = 40");
        edges.at(1, "TEA (cups; 0 at first, held to 9999)").answers("now 3 = 0; on 0 2 = 0");
        edges.at(1, "BOILS at 20 (1 to 99; so at first)").answers("now 4 = 20; kettle 2 1 = 20");
        edges.at(4, "each KNOWS a set of FACTS (whether they are TRUE; none at first)").given("truth 255; witness 0").answers("of 0 1 = 0");
        edges.at(4, "SAYS a set of them (that they are TRUE; of the others that they aren't; none at first)")
            .given("truth 15; witness 0").answers("of 0 2 = 0; of 0 6 = 15; of 0 5 = 240");
        edges.at(4, "is SURE (0 to 9; 3 at first)").given(Edges.EIGHT)
            .answers("of 0 3 = 3; of 1 3 = 3; of 2 3 = 3; of 3 3 = 3; of 4 3 = 3; of 5 3 = 3; of 7 3 = 3");
        edges.at(28, "SHEETS 0 to 3 are rows of at most 40 numbers of 8, 16 or 64 bits, or MISSING (at first)")
            .answers("write 0 0 0 = MISSING; write 1 0 0 = MISSING; write 2 0 0 = MISSING; write 3 0 0 = MISSING");
    }

    private static void states(Edges edges) {
        String one = "witness 0;" + NEAR;
        edges.at(5, "RIGHT in a FACT: one that SAYS it, if it is TRUE, or doesn't, if it isn't.").given("witness 0; set 0 1 0")
            .answers("truth 1; set 0 2 1; of 0 5 = 255; of 0 6 = 0").answers("truth 0; set 0 2 0; of 0 5 = 255; of 0 6 = 0")
            .answers("truth 1; set 0 2 0; of 0 5 = 254; of 0 6 = 1").answers("truth 0; set 0 2 1; of 0 5 = 254; of 0 6 = 1")
            .answers("truth 128; set 0 2 0; of 0 5 = 127; of 0 6 = 128");
        edges.at(5, "LIES in it: one that isn't RIGHT in it, and KNOWS it.").given(one).answers("of 0 4 = 6")
            .answers("set 0 1 0; of 0 4 = 0").answers("set 0 1 255; of 0 4 = 102").answers("set 0 1 255; set 0 2 204; of 0 4 = 255");
        edges.at(5, "LUCKY in it: one that is RIGHT in it, and doesn't KNOW it.").given(one).answers("of 0 5 = 144")
            .answers("set 0 1 255; of 0 5 = 0").answers("set 0 1 0; of 0 5 = 153");
        edges.at(5, "WRONG in it: neither RIGHT nor KNOWS it.").given(one).answers("of 0 6 = 96")
            .answers("set 0 1 255; of 0 6 = 0").answers("set 0 1 0; of 0 6 = 102");
    }

    private static void heatsOfWitness(Edges edges) {
        edges.at(9, "HEATS (by an answer to a FACT): WITNESS: 1 and SURE, if it LIES").given(sure(0, 0, NEAR)).answers("heats 0 1 = 101")
            .given(sure(0, 9, NEAR)).answers("heats 0 1 = 110; heats 0 2 = 110").given(sure(0, 9, FAR)).answers("heats 0 5 = 110");
        edges.at(9, "half of SURE, if it is LUCKY").given("witness 0;" + NEAR)
            .answers("set 0 3 0; heats 0 4 = 100; set 0 3 1; heats 0 4 = 100; set 0 3 2; heats 0 4 = 101; set 0 3 3; heats 0 4 = 101")
            .answers("set 0 3 8; heats 0 7 = 104; set 0 3 9; heats 0 7 = 104");
        edges.at(9, "Quotients are cut.").given("witness 0;" + NEAR).answers("set 0 3 9; heats 0 4 = 104; set 0 3 1; heats 0 4 = 100");
        edges.at(9, "0 else.").given(sure(0, 9, NEAR)).answers("heats 0 0 = 100; heats 0 3 = 100; heats 0 5 = 100; heats 0 6 = 100");
    }

    private static void heatsOfPlumber(Edges edges) {
        String liar = "witness 1; set 0 1 255; set 0 2 255;";
        edges.at(9, "PLUMBER: as WITNESS, and 5, if it LIES in FACT 0 to 3.").given(liar + "set 0 3 0")
            .answers("heats 0 0 = 106; heats 0 3 = 106; heats 0 4 = 101; heats 0 7 = 101")
            .given(liar + "set 0 3 9").answers("heats 0 0 = 115; heats 0 3 = 115; heats 0 4 = 110; heats 0 7 = 110")
            .given(sure(1, 9, FAR)).answers("heats 0 0 = 104; heats 0 1 = 100; heats 0 4 = 100; heats 0 5 = 110")
            .given(sure(1, 9, NEAR)).answers("heats 0 0 = 100; heats 0 1 = 115");
    }

    private static void heatsOfWife(Edges edges) {
        String wife = "truth 51; witness 2; set 0 1 15; set 0 2 85; set 0 3 9;";
        String other = "set 1 1 102; set 1 2 85;";
        String words = "WIFE: as WITNESS, and 1, if another witness that is a PLUMBER, or of a KIND under it, LIES in that FACT.";
        edges.at(9, words).given(wife).answers("heats 0 1 = 110; heats 0 4 = 104; heats 0 5 = 100")
            .given(wife + "witness 1;" + other).answers("heats 0 1 = 111; heats 0 5 = 101; heats 0 0 = 100; heats 0 4 = 104")
            .given(wife + "witness 4;" + other).answers("heats 0 1 = 111; heats 0 5 = 101; heats 0 0 = 100; heats 0 4 = 104")
            .given(wife + "witness 0;" + other).answers("heats 0 1 = 110; heats 0 5 = 100")
            .given(wife + "witness 2;" + other).answers("heats 0 1 = 110; heats 0 5 = 100")
            .given(wife + "witness 3;" + other).answers("heats 0 1 = 110; heats 0 5 = 100")
            .given(wife + "witness 5;" + other).answers("heats 0 1 = 110; heats 0 5 = 100")
            .given(wife + "witness 1; set 1 2 85").answers("heats 0 1 = 110; heats 0 5 = 100")
            .given(wife + "witness 1;" + other + "witness 4; set 2 1 102; set 2 2 85").answers("heats 0 1 = 111; heats 0 5 = 101")
            .given(wife + "witness 1;" + other + "swap 0 1").answers("heats 1 1 = 111; heats 1 5 = 101")
            .given(wife + "witness 1;" + other + "kettle 0 16").answers("heats 0 1 = 111");
        // Beside one that lies in all, those of the other kinds heat as they would alone.
        String beside = Edges.one(1, 255, 255, 3) + "witness 0; witness 1; witness 2; witness 3; witness 4; witness 5;";
        edges.at(9, "WIFE: as WITNESS, and 1").given(beside)
            .answers("heats 1 0 = 101; heats 2 0 = 101; heats 3 0 = 102; heats 4 0 = 97; heats 5 0 = 100; heats 6 0 = 102")
            .answers("set 1 1 1; heats 1 0 = 100; set 1 2 1; heats 1 0 = 104; set 2 1 1; heats 2 0 = 100; set 2 2 1; heats 2 0 = 109")
            .answers("set 1 2 1; heats 1 0 = 100; set 2 2 1; heats 2 0 = 100; set 5 2 1; heats 5 0 = 101");
    }

    private static void heatsOfChild(Edges edges) {
        edges.at(9, "CHILD: 0 less SURE (it cools), whatever it is.")
            .given(sure(3, 9, NEAR)).answers("heats 0 0 = 91; heats 0 1 = 91; heats 0 4 = 91; heats 0 5 = 91")
            .given(sure(3, 1, FAR)).answers("heats 0 0 = 99; heats 0 1 = 99; heats 0 4 = 99; heats 0 5 = 99")
            .given(sure(3, 0, NEAR)).answers("heats 0 0 = 100; heats 0 1 = 100; heats 0 4 = 100; heats 0 5 = 100");
    }

    private static void heatsOfExpert(Edges edges) {
        edges.at(9, "EXPERT: half of as PLUMBER (cut), and 1 more, if it is WRONG.")
            .given(sure(4, 9, NEAR)).answers("heats 0 1 = 107; heats 0 0 = 100; heats 0 4 = 102; heats 0 5 = 101")
            .given(sure(4, 0, NEAR)).answers("heats 0 1 = 103; heats 0 0 = 100; heats 0 4 = 100; heats 0 5 = 101")
            .given(sure(4, 9, FAR)).answers("heats 0 5 = 105; heats 0 4 = 100; heats 0 0 = 102; heats 0 1 = 101")
            .given(sure(4, 0, FAR)).answers("heats 0 5 = 100")
            .given(sure(4, 3, NEAR)).answers("heats 0 1 = 104; heats 0 4 = 100");
    }

    private static void heatsOfNurse(Edges edges) {
        String beside = "truth 51; witness 5; set 0 1 15; set 0 2 85; set 0 3 9; witness 1; set 1 1 102; set 1 2 85;";
        edges.at(9, "NURSE: as WIFE, but 0, if HEAT is above 15.").given(beside)
            .answers("heats 0 1 = 111; heats 0 5 = 101; heats 0 4 = 104")
            .answers("kettle 0 15; heats 0 1 = 111; heats 0 5 = 101; heats 0 4 = 104")
            .answers("kettle 0 16; heats 0 1 = 100; heats 0 5 = 100; heats 0 4 = 100")
            .answers("kettle 0 99; heats 0 1 = 100; heats 0 5 = 100; heats 0 4 = 100");
        edges.at(10, "but 0, if HEAT is above 15").given("kettle 2 99;" + Edges.one(5, 255, 255, 9))
            .answers("kettle 0 15; ask 0 0 = 0; now 1 = 25; ask 0 0 = 0; now 1 = 25")
            .answers("kettle 0 16; ask 0 0 = 0; now 1 = 16");
    }

    private static String boiling(int kind) {
        return "truth 51; witness " + kind + "; set 0 1 1; set 0 2 85; set 0 3 0; kettle 0 50;";
    }

    private static void learns(Edges edges) {
        edges.at(10, "LEARNS (whether it KNOWS a FACT behind its answer): WITNESS: as it did. PLUMBER: as WITNESS.")
            .given(boiling(0)).answers("ask 0 4 = 1; of 0 1 = 1; ask 0 5 = 1; of 0 1 = 1; ask 0 0 = 0; of 0 1 = 1")
            .given(boiling(1)).answers("ask 0 4 = 1; of 0 1 = 1; ask 0 5 = 1; of 0 1 = 1; ask 0 0 = 0; of 0 1 = 1");
        edges.at(10, "WIFE: as WITNESS, or if the kettle BOILED at that ANSWER.")
            .given(boiling(2)).answers("ask 0 4 = 1; of 0 1 = 17; ask 0 5 = 1; of 0 1 = 49; ask 0 7 = 0; of 0 1 = 49; ask 0 6 = 0;"
                + "of 0 1 = 49")
            .given(boiling(2) + "kettle 1 3").answers("ask 0 4 = 0; of 0 1 = 1; ask 0 5 = 0; of 0 1 = 1");
        edges.at(10, "CHILD: as WITNESS.").given(boiling(3))
            .answers("ask 0 4 = 1; of 0 1 = 1; ask 0 5 = 1; of 0 1 = 1; ask 0 0 = 0; of 0 1 = 1");
        edges.at(10, "EXPERT: as PLUMBER, or if it is LUCKY in it.")
            .given(boiling(4)).answers("ask 0 4 = 1; of 0 1 = 17; ask 0 5 = 1; of 0 1 = 17; ask 0 7 = 0; of 0 1 = 145; ask 0 4 = 0;"
                + "of 0 1 = 145");
        edges.at(10, "NURSE: as WIFE.")
            .given(boiling(5)).answers("ask 0 4 = 1; of 0 1 = 17; ask 0 5 = 1; of 0 1 = 49; ask 0 7 = 0; of 0 1 = 49; ask 0 6 = 0;"
                + "of 0 1 = 49");
    }

    private static String atOnce(int kind, int sure) {
        return "witness " + kind + "; set 0 3 " + sure + "; kettle 0 99; kettle 2 50;";
    }

    private static void doubts(Edges edges) {
        edges.at(5, "DOUBTS (how much less SURE it is, when the kettle BOILS at its answer; 0 at least)").given("witness 0")
            .answers("of 0 7 = 1; turn 0 1; of 0 7 = 2; turn 0 2; of 0 7 = 1; turn 0 3; of 0 7 = 0; turn 0 4; of 0 7 = 0; turn 0 5;"
                + "of 0 7 = 1");
        edges.at(10, "0 at least): WITNESS: 1.").given(atOnce(0, 9)).answers("ask 0 0 = 1; of 0 3 = 8")
            .given(atOnce(0, 1)).answers("ask 0 0 = 1; of 0 3 = 0").given(atOnce(0, 0)).answers("ask 0 0 = 1; of 0 3 = 0");
        edges.at(10, "PLUMBER: as WITNESS, and 1.").given(atOnce(1, 3)).answers("ask 0 0 = 1; of 0 3 = 1")
            .given(atOnce(1, 2)).answers("ask 0 0 = 1; of 0 3 = 0").given(atOnce(1, 1)).answers("ask 0 0 = 1; of 0 3 = 0")
            .given(atOnce(1, 0)).answers("ask 0 0 = 1; of 0 3 = 0");
        edges.at(10, "WIFE: as WITNESS. CHILD: 0. EXPERT: 0. NURSE: as WIFE. (Others as the KIND above.)")
            .given(atOnce(2, 9)).answers("ask 0 0 = 1; of 0 3 = 8").given(atOnce(2, 0)).answers("ask 0 0 = 1; of 0 3 = 0")
            .given(atOnce(3, 9)).answers("ask 0 0 = 1; of 0 3 = 9").given(atOnce(4, 9)).answers("ask 0 0 = 1; of 0 3 = 9")
            .given(atOnce(5, 9)).answers("ask 0 0 = 1; of 0 3 = 8").given(atOnce(5, 0)).answers("ask 0 0 = 1; of 0 3 = 0");
        edges.at(10, "when the kettle BOILS at its answer").given("witness 1; witness 1; kettle 0 99")
            .answers("kettle 1 3; ask 0 0 = 0; of 0 3 = 3").answers("ask 0 0 = 1; of 0 3 = 1; of 1 3 = 3")
            .answers("kettle 0 0; ask 0 0 = 0; of 0 3 = 3");
    }

    private static void answer(Edges edges) {
        edges.at(10, "An ANSWER of a witness to a FACT: HEAT is what it HEATS more (0 to 99 held)")
            .given(Edges.one(3, 0, 0, 9) + "kettle 2 99")
            .answers("kettle 0 10; ask 0 0 = 0; now 1 = 1").answers("kettle 0 9; ask 0 0 = 0; now 1 = 0")
            .answers("kettle 0 8; ask 0 0 = 0; now 1 = 0").answers("kettle 0 0; ask 0 0 = 0; now 1 = 0")
            .given(Edges.one(1, 255, 255, 9) + "kettle 1 0").answers("kettle 0 83; ask 0 0 = 0; now 1 = 98")
            .answers("kettle 0 84; ask 0 0 = 0; now 1 = 99").answers("kettle 0 85; ask 0 0 = 0; now 1 = 99")
            .answers("kettle 0 99; ask 0 0 = 0; now 1 = 99");
        edges.at(10, "HEAT is what it HEATS more (0 to 99 held); if HEAT is as much as it BOILS at then")
            .given(Edges.one(1, 255, 255, 9) + "kettle 2 99").answers("kettle 0 83; ask 0 0 = 0; now 1 = 98")
            .answers("kettle 0 85; ask 0 0 = 1; now 1 = 49").answers("kettle 0 99; ask 0 0 = 1; now 1 = 49");
    }

    private static void answerThatBoils(Edges edges) {
        String liar = Edges.one(0, 255, 255, 0);
        edges.at(10, "if HEAT is as much as it BOILS at then, or more").given(liar)
            .answers("kettle 0 18; ask 0 0 = 0; now 1 = 19").answers("kettle 0 19; ask 0 0 = 1; now 1 = 10")
            .answers("kettle 0 20; ask 0 0 = 1; now 1 = 10").answers("kettle 2 1; ask 0 0 = 1; now 1 = 0")
            .given(Edges.one(3, 0, 0, 1)).answers("kettle 0 20; ask 0 0 = 0; now 1 = 19").answers("kettle 0 21; ask 0 0 = 1; now 1 = 10")
            .answers("kettle 2 1; ask 0 0 = 0; now 1 = 0").answers("kettle 2 1; kettle 0 2; ask 0 0 = 1; now 1 = 0");
        edges.at(10, "and WATER is 4 or more: the kettle BOILS").given(liar + "kettle 0 50")
            .answers("kettle 1 0; ask 0 0 = 0; now 2 = 0; now 3 = 0; now 1 = 51")
            .answers("kettle 1 3; ask 0 0 = 0; now 2 = 3; now 3 = 0; now 1 = 51")
            .answers("kettle 1 4; ask 0 0 = 1; now 2 = 0; now 3 = 2; now 1 = 25").answers("kettle 1 5; ask 0 0 = 1; now 2 = 1; now 3 = 2")
            .answers("kettle 1 7; ask 0 0 = 1; now 2 = 3; kettle 0 50; ask 0 0 = 0; now 2 = 3");
        edges.at(10, "TEA is 2 more, WATER 4 less, HEAT half (cut), it DOUBTS. Then it LEARNS.").given(Edges.one(2, 0, 255, 9))
            .answers("kettle 0 21; ask 0 3 = 1; now 3 = 2; now 2 = 36; now 1 = 10; of 0 3 = 8; of 0 1 = 8; now 0 = 0")
            .answers("kettle 0 99; ask 0 3 = 1; now 1 = 49; ask 0 3 = 1; now 1 = 29; ask 0 3 = 1; now 1 = 18; of 0 3 = 6; now 3 = 6;"
                + "now 2 = 28");
    }

    private static void minute(Edges edges) {
        String words = "A MINUTE goes: if there are WITNESSES: the one whose number is the rest of MINUTE by how many they are"
            + " ANSWERS to the FACT that is the rest of (MINUTE by how many they are, cut) by 8.";
        edges.at(12, words).given(Edges.EIGHT + "set 0 1 1; set 0 2 1; set 0 3 9; kettle 2 99; turn 3 0").answers("now 5 = 0; now 6 = 0")
            .answers("minutes 7; now 5 = 7; now 6 = 0").answers("minutes 8; now 5 = 0; now 6 = 1")
            .answers("minutes 63; now 5 = 7; now 6 = 7")
            .answers("minutes 64; now 5 = 0; now 6 = 0").given("kettle 2 99;" + Edges.one(0, 128, 128, 0))
            .answers("minutes 7; now 6 = 7; now 1 = 0; minutes 1; now 6 = 0; now 1 = 1; minutes 7; now 1 = 1; minutes 1; now 1 = 2")
            .given("minutes 6; kettle 2 99; kettle 0 9;" + Edges.one(3, 0, 0, 2) + "witness 3; set 1 3 3; witness 3; set 2 3 1")
            .answers("now 5 = 0; now 6 = 2; minutes 1; now 1 = 7; now 5 = 1; minutes 1; now 1 = 4; now 5 = 2; minutes 1; now 1 = 3;"
                + "now 5 = 0; now 6 = 3");
        edges.at(12, "Without: HEAT is 1 less (0 at least).").given("kettle 2 1; kettle 0 2")
            .answers("minutes 1 = 0; now 1 = 1; minutes 1 = 0; now 1 = 0; minutes 1 = 0; now 1 = 0; now 2 = 40")
            .answers("kettle 0 99; minutes 98 = 0; now 1 = 1; minutes 1 = 0; now 1 = 0");
        edges.at(12, "MINUTE is 1 more.").answers("minutes 1; now 0 = 1; minutes 100; now 0 = 101").given("witness 0")
            .answers("minutes 1; now 0 = 1; minutes 100; now 0 = 101; ask 0 0; now 0 = 101");
    }

    /** A boiling a minute: 48 cups by 96 of water, 208 times, and 7 more. */
    static String almostAllTea() {
        return Edges.one(0, 255, 255, 0) + "kettle 2 1;" + "kettle 1 96; minutes 24;".repeat(208) + "kettle 1 99; minutes 7;";
    }

    private static void tea(Edges edges) {
        edges.at(12, "held to 9999").given(almostAllTea()).answers("now 3 = 9998; minutes 1 = 9999; now 2 = 67; minutes 1 = 9999;"
                + "now 2 = 63")
            .answers("on 1 2 = 9999; on 60 2 = 9999; on 60 1 = 3; now 3 = 9998");
        edges.at(10, "TEA (cups; 0 at first, held to 9999)").given(almostAllTea())
            .answers("ask 0 0 = 1; now 3 = 9999; ask 0 0 = 1; now 3 = 9999; now 2 = 63");
    }

    private static void on(Edges edges) {
        String words = "ON: n MINUTES go on with all as it is; nothing changes.";
        edges.at(14, words).given(Edges.COURT).keeps("on 0 0", "on 200 0", "on 200 1", "on 200 2");
        edges.at(15, words).given(Edges.COURT).keeps("then 0 0 0", "then 2 200 0", "then 2 200 1");
        edges.at(16, words).given(Edges.COURT + ";kettle 2 1").keeps("boils");
        edges.at(17, words).given(Edges.COURT + ";kettle 2 1").keeps("doubts 1");
        edges.at(18, words).given(Edges.COURT + ";kettle 2 1").keeps("worst 0", "worst 2");
        edges.at(19, words).given("image; kettle 2 4;" + Edges.one(0, 255, 0, 3) + "witness 0; set 1 1 255; set 1 2 255")
            .keeps("turns 1 = 1");
        edges.at(20, words).given(Edges.COURT + ";kettle 1 3").keeps("sure 0 60 = 9");
        edges.at(21, words).given(Edges.COURT).keeps("water 60 0 = 0", "water 60 2");
        edges.at(22, words).given(Edges.COURT).keeps("kind 0 60", "kind 2 1");
        edges.at(23, words).given(Edges.COURT).keeps("says 0 20", "says 2 1");
        edges.at(24, words).given(Edges.COURT).keeps("fact 60", "fact 1");
        edges.at(32, words).given(Edges.COURT).leavesAsIf("sheet 0 8 3; book 0 = 3; sheet 0 8 3", "sheet 0 8 3");
        edges.at(33, words).given(Edges.COURT).keeps("read 0 0", "read 1 2", "read 2 1");
    }
}
