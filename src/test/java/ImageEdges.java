/** Promises 34 to 38 at their edges: images, count, status. */
final class ImageEdges {
    private static final String COURT = Edges.COURT;
    private static final String CHANGES = "truth 5; kettle 0 50; kettle 1 77; kettle 2 60; witness 3; turn 0 4; set 0 1 200; set 0 2 201;"
        + "set 0 3 0; swap 1 2; minutes 9;";

    static void all(Edges edges) {
        image(edges);
        undo(edges);
        tear(edges);
        count(edges);
        status(edges);
    }

    private static void image(Edges edges) {
        edges.at(34, "All that section 1 tells (THE TAPE not) is kept: 1.").given(COURT).answers("image = 1; image = 1; status -1 = 0")
            .leavesAsIf("image;" + CHANGES + "undo", "image")
            .leavesAsIf("image;" + CHANGES + Edge.feeds(";water 9") + "undo = 3", "image;" + Edge.feeds(";water 9"))
            .leavesAsIf("image; wipe; undo = 3", "image; wipe")
            .leavesAsIf("image; sheet 0 16 1; write 1 0 9; undo = 3", "image; sheet 0 16 1; write 1 0 9")
            .given("").answers("image = 1; undo = 0")
            .leavesAsIf("image; witness 1; minutes 5; truth 255; kettle 1 0; kettle 2 1; undo = 0", "image")
            .given(Edges.EIGHT + "minutes 100; truth 255").answers("image = 1")
            .leavesAsIf("image; minutes 50; set 7 1 255; set 7 2 1; set 7 3 9; turn 7 0; undo = 8", "image");
    }

    private static void undo(Edges edges) {
        edges.at(35, "It becomes what was kept latest (which stays): how many WITNESSES.").given(COURT)
            .answers("undo = 3; undo = 3; witness 0 = 3; undo = 3; count 0 = 3")
            .leavesAsIf("undo;" + CHANGES + "undo", "undo").answers("kettle 0 77; image; kettle 0 78; image; kettle 0 79; undo = 3;"
                + "now 1 = 78; kettle 0 1; undo = 3; now 1 = 78")
            .given(Edges.EIGHT).answers("image; undo = 8; status -1 = 0").given("image; witness 0")
            .answers("undo = 0; count 0 = 0; now 5 = -1; of 0 0 = BEYOND")
            .given("witness 2; set 0 1 255; set 0 2 255; set 0 3 9; image;")
            .answers("undo = 1; set 0 1 0 = 255; set 0 2 0 = 255; set 0 3 0 = 9; undo = 1; of 0 1 = 255; of 0 2 = 255; of 0 3 = 9");
        edges.at(35, "NONE: nothing is kept.").given("").refuses("NONE", "undo").given(COURT + ";tear").refuses("NONE", "undo")
            .answers("image; undo = 3");
    }

    private static void tear(Edges edges) {
        edges.at(36, "Nothing is kept: 1 if something was, else 0.")
            .answers("tear = 0; tear = 0; image; tear = 1; tear = 0; status -1 = 0; undo = NONE")
            .given(COURT).answers("image; image; tear = 1; tear = 0; undo = NONE").leavesAsIf("tear = 1; image; tear = 1", "tear")
            .answers("tear = 1; image; undo = 3; tear = 1");
    }

    private static void count(Edges edges) {
        StringBuilder most = new StringBuilder(Edges.EIGHT);
        for (int w = 0; w < 8; w++) {
            most.append("set ").append(w).append(" 1 255; set ").append(w).append(" 2 255; set ").append(w).append(" 3 9;");
        }
        edges.at(37, "0 WITNESSES, 1 bytes of THE TAPE, 2 FACTS in which they LIE, counted each, 3 SURE of all together.")
            .answers("count 0 = 0; count 1 = 0; count 2 = 0; count 3 = 0")
            .given(most + "feed 0 4;".repeat(30)).answers("count 0 = 8; count 1 = 120; count 2 = 64; count 3 = 72; truth 255; count 2 = 0;"
                + "truth 127; count 2 = 8")
            .given("witness 3; set 0 1 3; set 0 2 1; witness 0; set 1 1 1; set 1 2 1; feed 0 1")
            .answers("count 0 = 2; count 1 = 1; count 2 = 2; count 3 = 6; set 0 3 0; count 3 = 3")
            .keeps("count 0", "count 1", "count 2", "count 3");
        edges.at(37, "BEYOND: another what.").given(COURT).refusesOutside("BEYOND", 0, 3, "count #").given("")
            .refusesOutside("BEYOND", 0, 3, "count #");
    }

    private static void status(Edges edges) {
        edges.at(38, "How many acts answered a finding ever")
            .answers("status -1 = 0; status 0 = 0; status 1 = 0; status 2 = 0; status 3 = 0; status 4 = 0; status 5 = 0; status 6 = 0;"
                + "status -1 = 0");
        edges.at(38, "(undo() takes none back)").given("truth 256 = BEYOND; image; truth 256 = BEYOND; boils = NONE")
            .answers("undo = 0; status 0 = 2; status 3 = 1; status -1 = 3; tear = 1; status -1 = 3")
            .answers("tear; undo = NONE; status 3 = 2; status -1 = 4");
        edges.at(38, "which -1: all, 0 to 6: BEYOND to SIZE.")
            .given(Edges.EIGHT + "of 8 0 = BEYOND; witness 0 = FULL; witness 0 = FULL; as 0 1 = KIND; as 0 1 = KIND; as 0 1 = KIND;"
                + "undo = NONE; undo = NONE; undo = NONE; undo = NONE;"
                + "lays 0 = MISSING; lays 0 = MISSING; lays 0 = MISSING; lays 0 = MISSING; lays 0 = MISSING;"
                + "sheet 0 8 -1 = SIZE;".repeat(6))
            .answers("status 0 = 1; status 1 = 2; status 2 = 3; status 3 = 4; status 4 = 0; status 5 = 5; status 6 = 6; status -1 = 21");
        edges.at(38, "BEYOND (counted from then on): another one.")
            .answers("status 7 = BEYOND; status 0 = 1; status -1 = 1; status -2 = BEYOND; status 0 = 2; status -1 = 2; status 1 = 0;"
                + "status 6 = 0")
            .given(COURT).refusesOutside("BEYOND", -1, 6, "status #").given("").refusesOutside("BEYOND", -1, 6, "status #");
        edges.at(38, "How many acts answered a finding ever (undo() takes none back)").given("feed 63 1; inquest = -1")
            .answers("status -1 = 0")
            .given(COURT).keeps("status -1 = 0", "status 0 = 0", "status 6 = 0").given("now 8 = BEYOND;".repeat(300))
            .answers("status 0 = 300; status -1 = 300");
    }
}
