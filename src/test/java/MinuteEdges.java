/** Promises 12 to 17 at their edges: minutes, now, on, then, boils, doubts. */
final class MinuteEdges {
    private static final String COURT = Edges.COURT;
    /** Lies in fact 0 alone, that is asked every eighth minute; behind one minute it is asked in just 8, 16, .., 200 minutes. */
    private static final String RARE = Edges.one(0, 1, 1, 0) + "minutes 1; kettle 0 0;";
    private static final String RARE_AND_SURE = Edges.one(0, 1, 1, 1) + "minutes 1; kettle 0 0;";

    static void all(Edges edges) {
        minutes(edges);
        minutesAtTheEnd(edges);
        now(edges);
        on(edges);
        then(edges);
        boils(edges);
        doubts(edges);
    }

    private static void minutes(Edges edges) {
        edges.at(12, "n MINUTES go (1 to 100): TEA then.").given(Edges.one(0, 255, 255, 0) + "kettle 2 1; kettle 1 99")
            .answers("minutes 1 = 2; now 0 = 1; now 3 = 2; now 2 = 95")
            .answers("minutes 100 = 48; now 0 = 100; now 3 = 48; now 2 = 3; now 1 = 76")
            .answers("minutes 99 = 48; now 0 = 99; now 1 = 75").given("").answers("minutes 1 = 0; minutes 100 = 0; now 0 = 101");
        edges.at(12, "BEYOND.").given(COURT).refusesOutside("BEYOND", 1, 100, "minutes #").refuses("BEYOND", "minutes -1", "minutes 200")
            .given("").refusesOutside("BEYOND", 1, 100, "minutes #");
    }

    /** Nothing is promised of so many calls; what is written about the last minute holds there all the same. */
    private static void minutesAtTheEnd(Edges edges) {
        String late = "minutes 100;".repeat(999);
        edges.at(12, "STATE: MINUTE would be above 99999.").withMoreCalls().given(late + "kettle 0 9").refuses("STATE", "minutes 100")
            .answers("now 0 = 99900; minutes 99 = 0; now 0 = 99999; minutes 1 = STATE; minutes 100 = STATE; now 0 = 99999")
            .given(late + "minutes 98").answers("minutes 2 = STATE; now 0 = 99998; minutes 1 = 0; now 0 = 99999; minutes 1 = STATE");
        edges.at(12, Edges.ORDER).withMoreCalls().given(late + "minutes 99").refusesOutside("BEYOND", 1, 100, "minutes #");
        edges.at(13, "(99999 at most)").withMoreCalls().given(late + "minutes 99;" + Edges.EIGHT)
            .answers("now 0 = 99999; now 5 = 7; now 6 = 3; on 200 0; now 0 = 99999");
    }

    private static void now(Edges edges) {
        edges.at(13, "What 0 MINUTE, 1 HEAT, 2 WATER, 3 TEA, 4 what it BOILS at")
            .given(Edges.one(0, 255, 255, 0) + "kettle 2 1; minutes 3; kettle 0 99; kettle 2 98")
            .answers("now 0 = 3; now 1 = 99; now 2 = 28; now 3 = 6; now 4 = 98");
        edges.at(13, "5 whose turn it is (-1: nobody is there)")
            .answers("now 5 = -1; minutes 9; now 5 = -1; witness 0; now 5 = 0; witness 0; now 5 = 1")
            .given(Edges.EIGHT).answers("now 5 = 0; minutes 7; now 5 = 7; minutes 1; now 5 = 0")
            .given("image; witness 0; undo").answers("now 5 = -1");
        edges.at(13, "6 the FACT that is asked (0: nobody is there)")
            .answers("now 6 = 0; minutes 9; now 6 = 0; witness 0; now 6 = 1; witness 0; now 6 = 4")
            .given("witness 3").answers("now 6 = 0; minutes 7; now 6 = 7; minutes 1; now 6 = 0")
            .given(Edges.EIGHT).answers("minutes 7; now 6 = 0; minutes 1; now 6 = 1; minutes 55; now 6 = 7; minutes 1; now 6 = 0");
        edges.at(13, "7 FACTS that are TRUE, as a set.").answers("now 7 = 0; truth 255; now 7 = 255; truth 128; now 7 = 128");
        edges.at(13, "BEYOND.").given(COURT).refusesOutside("BEYOND", 0, 7, "now #").given("").refusesOutside("BEYOND", 0, 7, "now #");
        edges.at(13, "What 0 MINUTE").given(COURT).keeps("now 0", "now 1", "now 2", "now 3", "now 4", "now 5", "now 6", "now 7");
    }

    private static void on(Edges edges) {
        edges.at(14, "HEAT (what 0), WATER (1), TEA (2) ON n MINUTES (0 to 200).").given(RARE + "kettle 2 25; kettle 1 4")
            .answers("on 0 0 = 0; on 0 1 = 4; on 0 2 = 0; on 7 0 = 0; on 8 0 = 1; on 199 0 = 24; on 199 1 = 4; on 199 2 = 0")
            .answers("on 200 0 = 12; on 200 1 = 0; on 200 2 = 2").given("kettle 0 99")
            .answers("on 0 0 = 99; on 1 0 = 98; on 98 0 = 1; on 99 0 = 0; on 200 0 = 0");
        edges.at(14, "BEYOND.").given(COURT).refusesOutside("BEYOND", 0, 200, "on # 0", "on # 1", "on # 2")
            .refusesOutside("BEYOND", 0, 2, "on 0 #", "on 200 #")
            .given("").refuses("BEYOND", "on -1 0", "on 201 0", "on 0 3");
    }

    private static void then(Edges edges) {
        edges.at(15, "SURE (what 0) of one").given(RARE_AND_SURE + "kettle 2 50")
            .answers("then 0 0 0 = 1; then 0 199 0 = 1; then 0 200 0 = 0")
            .given("witness 3; set 0 3 0; witness 3; set 1 3 9")
            .answers("then 0 0 0 = 0; then 1 0 0 = 9; then 0 200 0 = 0; then 1 200 0 = 9");
        edges.at(15, "what it KNOWS (1) ON n MINUTES (0 to 200).").given(Edges.one(2, 254, 0, 2) + "minutes 1; kettle 0 0; kettle 2 25")
            .answers("then 0 0 1 = 254; then 0 199 1 = 254; then 0 200 1 = 255").given("truth 127;" + Edges.one(4, 0, 126, 0) + "minutes 1")
            .answers("then 0 0 1 = 0; then 0 1 1 = 2; then 0 6 1 = 126; then 0 7 1 = 254; then 0 8 1 = 254; then 0 200 1 = 254");
        edges.at(15, "BEYOND.").given(COURT).refusesOutside("BEYOND", 0, 2, "then # 0 0", "then # 200 1")
            .refusesOutside("BEYOND", 0, 200, "then 0 # 0", "then 2 # 1").refusesOutside("BEYOND", 0, 1, "then 0 0 #", "then 2 200 #")
            .given("").refuses("BEYOND", "then 0 0 0", "then -1 0 0").given(Edges.EIGHT).refuses("BEYOND", "then 8 0 0");
    }

    private static void boils(Edges edges) {
        edges.at(16, "In how many MINUTES (1 to 200) ON the kettle BOILS next.").given("witness 0; kettle 0 99").answers("boils = 1")
            .given(RARE).answers("kettle 2 1; boils = 8").answers("kettle 2 24; boils = 192").answers("kettle 2 25; boils = 200")
            .given(Edges.one(0, 1, 1, 0)).answers("kettle 2 25; boils = 193").given(Edges.one(0, 255, 255, 3))
            .answers("boils = 5; minutes 5; boils = 4");
        edges.at(16, "NONE.").given(RARE + "kettle 2 26").refuses("NONE", "boils").given(Edges.one(0, 1, 1, 0) + "kettle 2 26")
            .refuses("NONE", "boils")
            .given("").refuses("NONE", "boils").given("kettle 0 99; kettle 2 1").refuses("NONE", "boils")
            .given("witness 0; kettle 0 99; kettle 1 3").refuses("NONE", "boils").answers("kettle 1 4; boils = 1");
    }

    private static void doubts(Edges edges) {
        edges.at(17, "In how many MINUTES (0 to 200) ON one isn't SURE at all (0) first.").given("witness 3; set 0 3 0")
            .answers("doubts 0 = 0")
            .given("witness 0; set 0 3 1; kettle 0 99").answers("doubts 0 = 1").given(RARE_AND_SURE).answers("kettle 2 2; doubts 0 = 8")
            .answers("kettle 2 48; doubts 0 = 192").answers("kettle 2 50; doubts 0 = 200").given(Edges.one(0, 1, 1, 1))
            .answers("kettle 2 50; doubts 0 = 193")
            .given("witness 1; set 0 3 9; kettle 0 99; kettle 2 1")
            .answers("doubts 0 = 5; set 0 3 1; doubts 0 = 1; set 0 3 2; doubts 0 = 1; set 0 3 3; doubts 0 = 2");
        edges.at(17, "BEYOND.").given(COURT).refusesOutside("BEYOND", 0, 2, "doubts #").given("")
            .refuses("BEYOND", "doubts 0", "doubts -1", "doubts max")
            .given(Edges.EIGHT).refuses("BEYOND", "doubts 8");
        edges.at(17, "NONE.").given(RARE_AND_SURE + "kettle 2 52").refuses("NONE", "doubts 0").given(Edges.one(0, 1, 1, 1) + "kettle 2 51")
            .refuses("NONE", "doubts 0")
            .given("witness 3; kettle 0 99; set 0 3 1").refuses("NONE", "doubts 0").given("witness 4; kettle 0 99; set 0 3 1")
            .refuses("NONE", "doubts 0")
            .given("witness 0; witness 3; set 0 3 0; kettle 1 3").refuses("NONE", "doubts 1").answers("doubts 0 = 0");
        edges.at(17, Edges.ORDER).given("witness 3").refuses("NONE", "doubts 0").refuses("BEYOND", "doubts 1", "doubts -1");
    }
}
