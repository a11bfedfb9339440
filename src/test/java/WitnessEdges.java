/** Promises 1 to 11 at their edges: a new object, facts, the kettle, witnesses. */
final class WitnessEdges {
    private static final String COURT = Edges.COURT;

    static void all(Edges edges) {
        newObject(edges);
        truth(edges);
        kettle(edges);
        witness(edges);
        of(edges);
        set(edges);
        turn(edges);
        as(edges);
        asTooFar(edges);
        heats(edges);
        ask(edges);
        swap(edges);
    }

    private static void newObject(Edges edges) {
        edges.at(1, "Nobody there").answers("count 0 = 0; now 5 = -1; now 6 = 0; of 0 0 = BEYOND; count 2 = 0; count 3 = 0");
        edges.at(1, "nothing true").answers("now 7 = 0");
        edges.at(1, "THE TAPE is empty").answers("count 1 = 0; inquest = -1; wipe = 0");
        edges.at(1, "no image is kept").answers("undo = NONE; tear = 0");
        new Run().calls(COURT + ";status 7 = BEYOND", edges.check, "another object");
        edges.at(1, "Nobody there, nothing true; THE TAPE is empty, no image is kept.")
            .answers("count 0 = 0; now 7 = 0; count 1 = 0; tear = 0; status -1 = 0; lays 0 = MISSING");
    }

    private static void truth(Edges edges) {
        edges.at(2, "FACTS that are TRUE become a set (0 to 255): what it was.")
            .answers("truth 0 = 0; truth 255 = 0; now 7 = 255; truth 255 = 255; truth 128 = 255; truth 1 = 128; truth 0 = 1; now 7 = 0");
        edges.at(2, "BEYOND.").given(COURT).refusesOutside("BEYOND", 0, 255, "truth #").refuses("BEYOND", "truth 511", "truth -256");
    }

    private static void kettle(Edges edges) {
        edges.at(3, "HEAT (what 0)").answers("kettle 0 99 = 0; now 1 = 99; kettle 0 0 = 99; now 1 = 0; now 2 = 40; now 4 = 20");
        edges.at(3, "HEAT (0 to 99; 0 at first)").given(COURT).refusesOutside("BEYOND", 0, 99, "kettle 0 #");
        edges.at(3, "WATER (1)").answers("kettle 1 99 = 40; now 2 = 99; kettle 1 0 = 99; now 2 = 0; now 1 = 0; now 4 = 20");
        edges.at(3, "WATER (0 to 99; 40 at first)").given(COURT).refusesOutside("BEYOND", 0, 99, "kettle 1 #");
        edges.at(3, "what it BOILS at (2) becomes v: what it was.")
            .answers("kettle 2 99 = 20; now 4 = 99; kettle 2 1 = 99; now 4 = 1; now 1 = 0; now 2 = 40");
        edges.at(3, "BOILS at 20 (1 to 99; so at first)").given(COURT).refusesOutside("BEYOND", 1, 99, "kettle 2 #");
        edges.at(3, "BEYOND.").given(COURT).refusesOutside("BEYOND", 0, 2, "kettle # 5").refuses("BEYOND", "kettle 3 100", "kettle -1 -1");
        edges.at(3, "becomes v: what it was.").given("witness 0; kettle 2 1")
            .answers("kettle 0 99 = 0; now 3 = 0; now 2 = 40; kettle 0 99 = 99; of 0 3 = 3");
    }

    private static void witness(Edges edges) {
        edges.at(4, "One more: the number.")
            .answers("witness 0 = 0; count 0 = 1; of 0 0 = 0; witness 5 = 1; count 0 = 2; of 1 0 = 5; of 0 0 = 0; witness 3 = 2;"
                + "of 2 0 = 3");
        edges.at(4, "BEYOND: kind.").given(COURT).refusesOutside("BEYOND", 0, 5, "witness #").given("")
            .refusesOutside("BEYOND", 0, 5, "witness #");
        edges.at(4, "(at most 8)")
            .answers("witness 0 = 0; witness 1 = 1; witness 2 = 2; witness 3 = 3; witness 4 = 4; witness 5 = 5; witness 0 = 6;"
                + "count 0 = 7; witness 5 = 7; count 0 = 8; of 7 0 = 5; witness 0 = FULL; count 0 = 8");
        edges.at(4, "FULL.").given(Edges.EIGHT).refuses("FULL", "witness 0", "witness 1", "witness 2", "witness 3", "witness 4",
                "witness 5");
        edges.at(4, Edges.ORDER).given(Edges.EIGHT).refusesOutside("BEYOND", 0, 5, "witness #");
        edges.at(4, "One more: the number. BEYOND: kind. FULL.")
            .given("witness 2; set 0 1 255; set 0 2 255; set 0 3 9; image; witness 1; set 1 1 255; set 1 2 255; set 1 3 9; undo")
            .answers("witness 4 = 1; of 1 0 = 4; of 1 1 = 0; of 1 2 = 0; of 1 3 = 3");
    }

    private static void of(Edges edges) {
        edges.at(5, "Of one: what 0 KIND, 1 FACTS that it KNOWS, 2 that it SAYS, 3 SURE").given(COURT)
            .answers("of 0 0 = 0; of 0 1 = 15; of 0 2 = 85; of 0 3 = 3; of 2 0 = 5; of 2 1 = 0; of 2 2 = 0; of 2 3 = 7")
            .given("witness 5; set 0 1 255; set 0 2 255; set 0 3 9").answers("of 0 0 = 5; of 0 1 = 255; of 0 2 = 255; of 0 3 = 9");
        edges.at(5, "4 those in which it LIES, 5 in which it is LUCKY, 6 in which it is WRONG, as sets").given(Edges.one(0, 255, 255, 3))
            .answers("of 0 4 = 255; of 0 5 = 0; of 0 6 = 0").answers("set 0 1 0; of 0 4 = 0; of 0 5 = 0; of 0 6 = 255")
            .answers("set 0 1 0; truth 255; of 0 4 = 0; of 0 5 = 255; of 0 6 = 0").answers("truth 255; of 0 4 = 0; of 0 5 = 0; of 0 6 = 0")
            .answers("truth 127; set 0 1 129; of 0 4 = 128; of 0 5 = 126; of 0 6 = 0");
        edges.at(5, "7 DOUBTS").given("witness 1; set 0 3 0").answers("of 0 7 = 2; set 0 3 1; of 0 7 = 2; set 0 3 9; of 0 7 = 2");
        edges.at(5, "BEYOND.").given(COURT).refusesOutside("BEYOND", 0, 2, "of # 0", "of # 7")
            .refusesOutside("BEYOND", 0, 7, "of 0 #", "of 2 #")
            .given("").refuses("BEYOND", "of 0 0", "of -1 0", "of 0 7").given(Edges.EIGHT).refuses("BEYOND", "of 8 0");
    }

    private static void set(Edges edges) {
        String one = "witness 0;";
        edges.at(6, "What it KNOWS (what 1; 0 to 255)").given(one)
            .answers("set 0 1 0 = 0; set 0 1 255 = 0; of 0 1 = 255; set 0 1 0 = 255; of 0 1 = 0; of 0 2 = 0; of 0 3 = 3")
            .given(COURT).refusesOutside("BEYOND", 0, 255, "set 0 1 #", "set 2 1 #");
        edges.at(6, "SAYS (2; likewise)").given(one)
            .answers("set 0 2 0 = 0; set 0 2 255 = 0; of 0 2 = 255; set 0 2 0 = 255; of 0 2 = 0; of 0 1 = 0; of 0 3 = 3")
            .given(COURT).refusesOutside("BEYOND", 0, 255, "set 0 2 #", "set 2 2 #");
        edges.at(6, "SURE (3) of one becomes v: what it was.").given(one)
            .answers("set 0 3 9 = 3; of 0 3 = 9; set 0 3 0 = 9; of 0 3 = 0; set 0 3 0 = 0; of 0 1 = 0; of 0 2 = 0");
        edges.at(6, "is SURE (0 to 9; 3 at first)").given(COURT).refusesOutside("BEYOND", 0, 9, "set 0 3 #", "set 2 3 #")
            .refuses("BEYOND", "set 0 3 255");
        edges.at(6, "BEYOND.").given(COURT).refusesOutside("BEYOND", 1, 3, "set 0 # 1", "set 2 # 0")
            .refusesOutside("BEYOND", 0, 2, "set # 1 1", "set # 2 1", "set # 3 1").given("").refuses("BEYOND", "set 0 1 1", "set -1 3 1")
            .given(Edges.EIGHT).refuses("BEYOND", "set 8 1 1")
            .answers("set 7 1 255 = 0; set 7 3 9 = 3; of 7 1 = 255; of 6 1 = 0; of 6 3 = 3");
    }

    private static void turn(Edges edges) {
        edges.at(7, "One becomes one of another KIND: what it was.").given("witness 3; witness 2; set 0 1 77; set 0 2 255; set 0 3 9")
            .answers("turn 0 0 = 3; of 0 0 = 0; turn 0 5 = 0; of 0 0 = 5; turn 0 1 = 5; of 0 0 = 1; of 1 0 = 2; of 0 1 = 77; of 0 2 = 255;"
                + "of 0 3 = 9")
            .answers("turn 0 3 = 3; of 0 0 = 3; status -1 = 0");
        edges.at(7, "BEYOND.").given(COURT).refusesOutside("BEYOND", 0, 2, "turn # 0", "turn # 5")
            .refusesOutside("BEYOND", 0, 5, "turn 0 #", "turn 2 #")
            .given("").refuses("BEYOND", "turn 0 0", "turn -1 0").given(Edges.EIGHT).refuses("BEYOND", "turn 8 0")
            .answers("turn 7 0 = 1; of 7 0 = 0");
    }

    private static void as(Edges edges) {
        String kinds = Edges.EIGHT + "set 0 3 9; set 1 3 8; set 2 3 0; set 3 3 6; set 4 3 5; set 5 3 4; set 7 3 1;";
        edges.at(8, "One as one of a kind: SURE.").given(kinds)
            .answers("as 0 0 = 9; as 1 0 = 8; as 2 0 = 0; as 3 0 = 6; as 4 0 = 5; as 5 0 = 4; as 6 0 = 3; as 7 0 = 1")
            .answers("as 1 1 = 8; as 2 2 = 0; as 3 3 = 6; as 4 4 = 5; as 5 5 = 4; as 4 1 = 5; as 5 2 = 4; as 7 1 = 1; status -1 = 0");
        edges.at(8, "WITNESSES 0, 1, .. (at most 8) are of KINDS: 0 WITNESS, 1 PLUMBER under WITNESS, 2 WIFE under WITNESS,"
            + " 3 CHILD under WITNESS, 4 EXPERT under PLUMBER, 5 NURSE under WIFE").given(Edges.EIGHT)
            .answers("as 0 0 = 3; as 1 0 = 3; as 2 0 = 3; as 3 0 = 3; as 4 1 = 3; as 4 0 = 3; as 5 2 = 3; as 5 0 = 3")
            .answers("as 4 2 = KIND; as 5 1 = KIND; as 1 4 = KIND; as 2 5 = KIND; as 0 1 = KIND; as 0 2 = KIND; as 0 3 = KIND");
        edges.at(8, "BEYOND: no such one, kind.").given(COURT).refusesOutside("BEYOND", 0, 2, "as # 0", "as # 1")
            .refusesOutside("BEYOND", 0, 5, "as 0 #", "as 2 #").given("").refuses("BEYOND", "as 0 0", "as -1 0")
            .given(Edges.EIGHT).refuses("BEYOND", "as 8 0");
        edges.at(8, Edges.ORDER).given(COURT).refuses("BEYOND", "as 3 5", "as -1 5", "as 0 6", "as 0 -1", "as 3 6");
    }

    private static void asTooFar(Edges edges) {
        String words = "KIND: it isn't of that kind, nor of one under it.";
        edges.at(8, words).given(Edges.EIGHT).refuses("KIND", "as 0 1", "as 0 2", "as 0 3", "as 0 4", "as 0 5");
        edges.at(8, words).given(Edges.EIGHT).refuses("KIND", "as 1 2", "as 1 3", "as 1 4", "as 1 5", "as 2 1", "as 2 3", "as 2 4",
                "as 2 5");
        edges.at(8, words).given(Edges.EIGHT).refuses("KIND", "as 3 1", "as 3 2", "as 3 4", "as 3 5");
        edges.at(8, words).given(Edges.EIGHT).refuses("KIND", "as 4 2", "as 4 3", "as 4 5", "as 5 1", "as 5 3", "as 5 4");
    }

    private static void heats(Edges edges) {
        edges.at(9, "100, and what an ANSWER of one to a FACT HEATS now.")
            .given(Edges.one(3, 0, 0, 9) + "witness 1; set 1 1 255; set 1 2 255; set 1 3 9")
            .answers("heats 0 0 = 91; heats 0 7 = 91; heats 1 0 = 115; heats 1 7 = 110")
            .answers("kettle 0 99; heats 1 0 = 115; kettle 0 0; heats 0 0 = 91")
            .keeps("heats 0 0 = 91", "heats 1 7 = 110", "kettle 0 99; heats 1 0 = 115; kettle 0 0");
        edges.at(9, "BEYOND.").given(COURT).refusesOutside("BEYOND", 0, 2, "heats # 0", "heats # 7")
            .refusesOutside("BEYOND", 0, 7, "heats 0 #", "heats 2 #").given("").refuses("BEYOND", "heats 0 0", "heats -1 0")
            .given(Edges.EIGHT).refuses("BEYOND", "heats 8 0");
    }

    private static void ask(Edges edges) {
        edges.at(10, "An ANSWER of one to a FACT now: 1 if the kettle BOILED, else 0.").given(Edges.one(0, 255, 255, 9))
            .answers("kettle 0 9; ask 0 0 = 0; now 1 = 19").answers("kettle 0 10; ask 0 7 = 1; now 1 = 10; now 0 = 0; now 3 = 2")
            .given(Edges.EIGHT).answers("ask 7 7 = 0; ask 0 0 = 0; status -1 = 0");
        edges.at(10, "BEYOND.").given(COURT + ";kettle 0 99").refusesOutside("BEYOND", 0, 2, "ask # 0", "ask # 7")
            .refusesOutside("BEYOND", 0, 7, "ask 0 #", "ask 2 #").given("kettle 0 99").refuses("BEYOND", "ask 0 0", "ask -1 0")
            .given(Edges.EIGHT + "kettle 0 99").refuses("BEYOND", "ask 8 0");
    }

    private static void swap(Edges edges) {
        edges.at(11, "Two change numbers (and with these their turns): 1.")
            .given(Edges.EIGHT + "set 0 1 1; set 0 2 2; set 0 3 4; set 7 1 8; set 7 2 16; set 7 3 5")
            .answers("swap 0 7 = 1; of 0 0 = 1; of 0 1 = 8; of 0 2 = 16; of 0 3 = 5; of 7 0 = 0; of 7 1 = 1; of 7 2 = 2; of 7 3 = 4;"
                + "count 0 = 8")
            .answers("swap 7 0 = 1; of 0 0 = 1; of 0 1 = 8; of 0 2 = 16; of 0 3 = 5; of 7 0 = 0; of 7 1 = 1; of 7 2 = 2; of 7 3 = 4;"
                + "of 1 0 = 1; of 6 0 = 0")
            .answers("minutes 8; swap 0 7 = 1; now 5 = 0; now 0 = 8").keeps("swap 3 4; swap 4 3")
            .given("kettle 2 99;" + Edges.one(3, 0, 0, 0) + "witness 0; set 1 1 255; set 1 2 255; set 1 3 9")
            .answers("minutes 1; now 1 = 0; minutes 1; now 1 = 10").answers("swap 0 1; minutes 1; now 1 = 10; minutes 1; now 1 = 10");
        edges.at(11, "BEYOND: also one and the same.").given(COURT)
            .refuses("BEYOND", "swap 0 0", "swap 1 1", "swap 2 2", "swap 3 3", "swap -1 -1")
            .refusesOutside("BEYOND", 0, 2, "swap # 0", "swap 0 #", "swap # 2", "swap 2 #").given("")
            .refuses("BEYOND", "swap 0 0", "swap 0 1")
            .given("witness 0").refuses("BEYOND", "swap 0 1", "swap 1 0", "swap 0 0").given(Edges.EIGHT)
            .refuses("BEYOND", "swap 0 8", "swap 8 7", "swap 7 7");
    }
}
