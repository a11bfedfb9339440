/** Promises 18 to 24 at their edges: what is best. */
final class BestEdges {
    private static final String COURT = Edges.COURT;
    /** Knows all and is right in all but fact 3, which is asked an eighth time just in the sixtieth minute. */
    private static final String SIXTY = Edges.one(0, 255, 8, 0);
    /** The first heats by 0, the second by 1 an answer. */
    private static final String TWO = Edges.one(0, 255, 0, 0) + "witness 0; set 1 1 255; set 1 2 255; set 1 3 0;";

    static void all(Edges edges) {
        worst(edges);
        turns(edges);
        turnsOfSeveral(edges);
        sure(edges);
        sureOfNone(edges);
        water(edges);
        waterOfNone(edges);
        kind(edges);
        says(edges);
        fact(edges);
    }

    private static String eightThatKnow() {
        StringBuilder script = new StringBuilder("kettle 2 1;");
        for (int w = 0; w < 8; w++) {
            script.append("witness 0; set ").append(w).append(" 1 255; set ").append(w).append(" 3 0;");
        }
        return script.toString();
    }

    private static void worst(Edges edges) {
        edges.at(18, "The FACT that one had best be asked now (one ANSWER), so that HEAT is most behind it").given(Edges.one(0, 255, 0, 3))
            .answers("set 0 2 128; worst 0 = 7").answers("set 0 2 1; worst 0 = 0").answers("set 0 2 16; worst 0 = 4")
            .answers("set 0 2 128; kettle 0 15; worst 0 = 7").answers("set 0 2 128; kettle 0 16; worst 0 = 0")
            .answers("set 0 2 128; kettle 0 16; kettle 1 3; worst 0 = 7").answers("set 0 2 128; kettle 0 95; kettle 1 0; worst 0 = 7")
            .given(Edges.one(1, 255, 144, 3)).answers("worst 0 = 4; set 0 2 8; worst 0 = 3; set 0 2 24; worst 0 = 3")
            .given(Edges.one(1, 255, 24, 3)).answers("kettle 0 12; worst 0 = 4; kettle 0 20; worst 0 = 3")
            .given(Edges.EIGHT + "set 7 1 255; set 7 2 128").answers("worst 7 = 7");
        edges.at(18, "of several the least.").given(Edges.one(0, 255, 192, 3))
            .answers("worst 0 = 6; set 0 2 255; worst 0 = 0; set 0 2 0; worst 0 = 0")
            .answers("kettle 0 99; kettle 1 0; worst 0 = 0").answers("turn 0 3; worst 0 = 0").answers("turn 0 3; kettle 0 99; worst 0 = 0");
        edges.at(18, "of several the least. BEYOND.").given(Edges.one(0, 255, 255, 3) + "kettle 0 16").answers("worst 0 = 0; now 1 = 16")
            .answers("kettle 0 19; worst 0 = 0; set 0 2 127; worst 0 = 7")
            .given(Edges.one(0, 255, 32, 0)).answers("worst 0 = 5; heats 0 5 = 101");
        edges.at(18, "BEYOND.").given(COURT).refusesOutside("BEYOND", 0, 2, "worst #").given("")
            .refuses("BEYOND", "worst 0", "worst -1", "worst min")
            .given(Edges.EIGHT).refuses("BEYOND", "worst 8");
    }

    private static void turns(Edges edges) {
        edges.at(19, "The two whose numbers, changed, make TEA most ON n MINUTES (1 to 60)").given(TWO + "kettle 2 30")
            .answers("turns 59 = 1; turns 60 = NONE; turns 57 = NONE; turns 58 = NONE").given(TWO + "kettle 2 1")
            .answers("turns 1 = 1; turns 2 = NONE; turns 3 = 1").given(TWO + "swap 0 1; minutes 1; kettle 0 0; kettle 2 1; kettle 1 99")
            .answers("turns 1 = 1; turns 2 = NONE");
        edges.at(19, "more than as it is").given(TWO + "swap 0 1; kettle 2 1").refuses("NONE", "turns 1", "turns 2", "turns 59", "turns 60")
            .given(TWO + "kettle 2 1; kettle 1 3").refuses("NONE", "turns 1", "turns 60")
            .answers("kettle 1 4; turns 1 = 1; turns 2 = NONE");
        edges.at(19, "10 times the lesser and the other one").given(eightThatKnow() + "set 7 2 255; minutes 6").answers("turns 1 = 67")
            .given(eightThatKnow() + "set 0 2 255; minutes 7; kettle 0 0").answers("turns 1 = 7")
            .given(eightThatKnow() + "set 2 2 255; minutes 5; kettle 0 0; now 3 = 2").answers("turns 1 = 25");
        edges.at(19, "BEYOND.").given(TWO).refusesOutside("BEYOND", 1, 60, "turns #").given(COURT)
            .refuses("BEYOND", "turns 0", "turns 61", "turns -1");
        edges.at(19, "NONE.").given("").refuses("NONE", "turns 1", "turns 60").given(Edges.one(0, 255, 255, 9))
            .refuses("NONE", "turns 1", "turns 60");
        edges.at(19, Edges.ORDER).given("").refusesOutside("BEYOND", 1, 60, "turns #").given("witness 0")
            .refusesOutside("BEYOND", 1, 60, "turns #");
    }

    private static void turnsOfSeveral(Edges edges) {
        edges.at(19, "of several the least.").given(eightThatKnow() + "set 7 2 255").answers("turns 7 = 7; turns 1 = 7")
            .given(eightThatKnow() + "set 6 2 255; set 7 2 255").answers("turns 1 = 6; turns 6 = 6")
            .given(eightThatKnow() + "set 6 2 255; set 7 2 255; set 7 3 9; kettle 2 10").answers("turns 1 = 7");
    }

    private static void sure(Edges edges) {
        String liar = Edges.one(0, 255, 255, 5);
        edges.at(20, "The greatest SURE (0 to 9) of one now").given(liar)
            .answers("kettle 2 11; sure 0 1 = 9").answers("kettle 2 10; sure 0 1 = 8").answers("kettle 2 9; sure 0 1 = 7")
            .answers("kettle 2 2; sure 0 1 = 0").answers("kettle 2 3; sure 0 1 = 1").answers("kettle 1 3; kettle 2 1; sure 0 60 = 9")
            .given(Edges.one(3, 0, 0, 0)).answers("kettle 0 28; sure 0 1 = 9").answers("kettle 0 20; sure 0 1 = 9");
        edges.at(20, "with which TEA isn't more ON n MINUTES (1 to 60).").given(SIXTY + "kettle 2 16")
            .answers("sure 0 59 = 1; sure 0 60 = 0")
            .given(SIXTY + "kettle 2 1").answers("sure 0 1 = 9; sure 0 3 = 9; sure 0 4 = NONE")
            .given(liar + "set 0 3 0; kettle 2 10; minutes 10; now 3 = 2; kettle 0 0").answers("sure 0 1 = 8; sure 0 2 = 3");
        edges.at(20, "TEA isn't more").given(TermsEdges.almostAllTea() + "now 3 = 9998; sure 0 1 = NONE; minutes 1")
            .answers("now 3 = 9999; sure 0 60 = 9");
        edges.at(20, "BEYOND.").given(COURT).refusesOutside("BEYOND", 0, 2, "sure # 1", "sure # 60")
            .refusesOutside("BEYOND", 1, 60, "sure 0 #", "sure 2 #")
            .given("").refuses("BEYOND", "sure 0 1", "sure -1 1").given(Edges.EIGHT).refuses("BEYOND", "sure 8 1");
    }

    private static void sureOfNone(Edges edges) {
        edges.at(20, "NONE.").given(Edges.one(0, 255, 255, 5) + "kettle 2 1").refuses("NONE", "sure 0 1", "sure 0 60")
            .given(Edges.one(3, 0, 0, 9) + "kettle 0 29").refuses("NONE", "sure 0 1").given("witness 0; witness 0; kettle 0 99")
            .refuses("NONE", "sure 1 1");
        edges.at(20, Edges.ORDER).given(Edges.one(0, 255, 255, 5) + "kettle 2 1").refusesOutside("BEYOND", 1, 60, "sure 0 #")
            .refusesOutside("BEYOND", 0, 0, "sure # 60");
    }

    private static void water(Edges edges) {
        String boiler = Edges.one(0, 255, 255, 0) + "kettle 2 1;";
        edges.at(21, "The least WATER (0 to 99) now with which TEA is v").given(boiler)
            .answers("water 60 0 = 0; water 1 1 = 4; water 1 2 = 4; water 2 3 = 8; water 24 47 = 96; water 24 48 = 96; water 60 48 = 96")
            .answers("kettle 1 0; water 60 48 = 96").answers("kettle 1 99; water 1 2 = 4");
        edges.at(21, "v (0 to 9999) or more").given(TermsEdges.almostAllTea())
            .answers("water 1 9998 = 0; water 1 9999 = 4; water 60 9999 = 4")
            .answers("minutes 1; water 1 9999 = 0; water 1 0 = 0").given("").answers("water 1 0 = 0; water 60 0 = 0");
        edges.at(21, "ON n MINUTES (1 to 60)").given(SIXTY + "kettle 2 8")
            .answers("water 59 1 = NONE; water 60 1 = 4; water 60 2 = 4; water 60 3 = NONE")
            .given(boiler).answers("water 1 2 = 4; water 1 3 = NONE");
        edges.at(21, "BEYOND.").given(COURT).refusesOutside("BEYOND", 1, 60, "water # 0", "water # 2")
            .refusesOutside("BEYOND", 0, 9999, "water 1 #", "water 60 #")
            .given("").refuses("BEYOND", "water 0 0", "water 61 0", "water 1 -1", "water 1 10000");
    }

    private static void waterOfNone(Edges edges) {
        String boiler = Edges.one(0, 255, 255, 0) + "kettle 2 1;";
        edges.at(21, "NONE.").given(boiler).refuses("NONE", "water 60 49", "water 23 47", "water 60 9999").given("")
            .refuses("NONE", "water 1 1", "water 60 9999");
        edges.at(21, Edges.ORDER).given("").refusesOutside("BEYOND", 1, 60, "water # 9999")
            .refuses("BEYOND", "water 60 10000", "water 1 max");
    }

    private static void kind(Edges edges) {
        edges.at(22, "The KIND as one of which one makes TEA least ON n MINUTES (1 to 60)").given(SIXTY + "kettle 2 8")
            .answers("kind 0 59 = 0; kind 0 60 = 3")
            .given(Edges.one(0, 255, 255, 9) + "kettle 2 1").answers("kind 0 1 = 3; kind 0 60 = 3")
            .given("truth 1;" + Edges.one(4, 0, 0, 9) + "kettle 2 1").answers("kind 0 1 = 0");
        // Each KIND may be it: a plumber for what it doubts, a wife for what she learns, an expert and a nurse for what a nurse hears then.
        edges.at(22, "The KIND as one of which one makes TEA least")
            .given("truth 130; kettle 2 24; kettle 0 44;" + Edges.one(5, 228, 47, 5)).answers("kind 0 2 = 1")
            .given("truth 72; kettle 2 23; kettle 0 30;" + Edges.one(3, 20, 6, 4)).answers("kind 0 9 = 2")
            .given("truth 221; kettle 2 17; kettle 0 31;" + Edges.one(0, 38, 244, 6))
            .answers("witness 5; set 1 1 13; set 1 2 246; set 1 3 6; kind 0 2 = 4")
            .given("truth 243; kettle 2 20; kettle 0 17;" + Edges.one(1, 135, 122, 4))
            .answers("witness 5; set 1 1 137; set 1 2 210; set 1 3 7; kind 0 2 = 5; turn 0 5; on 2 2 = 0");
        // One that heats as a witness and never doubts would make 4 cups here, but there is no such KIND: as each of the six it makes 6.
        edges.at(22, "The KIND").given("truth 190; kettle 2 18; kettle 0 62;" + Edges.one(2, 88, 194, 2))
            .answers("witness 5; set 1 1 246; set 1 2 121; set 1 3 8; kind 0 4 = 0; on 4 2 = 6; turn 0 3; on 4 2 = 6; turn 0 4; on 4 2 = 6");
        edges.at(22, "of several the least.").given(Edges.one(5, 255, 255, 9) + "kettle 1 3").answers("kind 0 1 = 0; kind 0 60 = 0")
            .given(Edges.one(1, 255, 255, 0) + "kettle 0 19").answers("kind 0 1 = 3; kettle 0 18; kind 0 1 = 0")
            .given(Edges.one(1, 255, 255, 0) + "kettle 0 99").answers("kind 0 1 = 0")
            .given(Edges.EIGHT).answers("kind 7 1 = 0");
        edges.at(22, "makes TEA least").given(TermsEdges.almostAllTea()).answers("now 3 = 9998; kind 0 1 = 3; kind 0 60 = 3")
            .answers("minutes 1; kind 0 1 = 0; kind 0 60 = 0");
        edges.at(22, "BEYOND.").given(COURT).refusesOutside("BEYOND", 0, 2, "kind # 1", "kind # 60")
            .refusesOutside("BEYOND", 1, 60, "kind 0 #", "kind 2 #")
            .given("").refuses("BEYOND", "kind 0 1", "kind -1 1").given(Edges.EIGHT).refuses("BEYOND", "kind 8 1");
    }

    private static void says(Edges edges) {
        edges.at(23, "The set of FACTS that one had best SAY, so that TEA is least ON n MINUTES (1 to 20)")
            .given("truth 8;" + Edges.one(0, 8, 0, 0) + "kettle 2 3").answers("says 0 19 = 0; says 0 20 = 8")
            .given("truth 1;" + Edges.one(0, 1, 0, 0) + "kettle 2 1").answers("says 0 1 = 1")
            .given("truth 255;" + Edges.one(0, 255, 0, 0) + "kettle 2 1")
            .answers("says 0 8 = 255; says 0 20 = 255; says 0 7 = 127; says 0 1 = 1")
            .given("truth 128;" + Edges.EIGHT + "set 7 1 128; turn 7 0; kettle 2 99; minutes 63; kettle 0 19; kettle 2 20")
            .answers("says 7 1 = 128");
        edges.at(23, "of several the least.").given("truth 255;" + Edges.one(0, 255, 255, 0))
            .answers("says 0 1 = 0; says 0 19 = 0; says 0 20 = 1")
            .answers("kettle 0 99; says 0 1 = 0").answers("kettle 1 0; kettle 0 99; says 0 20 = 0");
        edges.at(23, "so that TEA is least").given(TermsEdges.almostAllTea() + "truth 255")
            .answers("now 3 = 9998; now 6 = 7; says 0 1 = 128; says 0 8 = 255; says 0 20 = 255")
            .given(TermsEdges.almostAllTea() + "truth 255; set 0 2 0; ask 0 0").answers("now 3 = 9999; says 0 1 = 0; says 0 20 = 0");
        edges.at(23, "BEYOND.").given(COURT).refusesOutside("BEYOND", 0, 2, "says # 1", "says # 20")
            .refusesOutside("BEYOND", 1, 20, "says 0 #", "says 2 #")
            .given("").refuses("BEYOND", "says 0 1", "says -1 1").given(Edges.EIGHT).refuses("BEYOND", "says 8 1");
    }

    private static void fact(Edges edges) {
        edges.at(24, "The FACT whose being otherwise (TRUE or not)").given(Edges.one(0, 128, 0, 0) + "minutes 7; kettle 2 1")
            .answers("fact 1 = 7")
            .given("truth 255;" + Edges.one(0, 128, 255, 0) + "minutes 7; kettle 2 1").answers("fact 1 = 7")
            .given(Edges.one(0, 255, 0, 0) + "kettle 2 1").answers("fact 1 = 0; minutes 4; fact 1 = 4");
        edges.at(24, "makes TEA most ON n MINUTES (1 to 60)").given(Edges.one(0, 8, 0, 0) + "kettle 2 8")
            .answers("fact 59 = 0; fact 60 = 3");
        edges.at(24, "of several the least.").given("").answers("fact 1 = 0; fact 60 = 0").given(Edges.one(0, 96, 0, 0) + "kettle 2 1")
            .answers("fact 8 = 5; fact 5 = 0; fact 6 = 5")
            .given(Edges.one(0, 255, 255, 0) + "kettle 2 8").answers("fact 8 = 0; on 8 2 = 2")
            .given(Edges.one(0, 255, 255, 0) + "kettle 1 3").answers("fact 60 = 0");
        edges.at(24, "makes TEA most").given(TermsEdges.almostAllTea() + "truth 255")
            .answers("now 3 = 9998; now 6 = 7; fact 1 = 7; fact 8 = 0").answers("set 0 2 0; ask 0 0 = 1; now 3 = 9999; fact 60 = 0");
        edges.at(24, "BEYOND.").given(COURT).refusesOutside("BEYOND", 1, 60, "fact #").given("").refusesOutside("BEYOND", 1, 60, "fact #");
    }
}
