/** Promises 28 to 33 at their edges: sheets. */
final class SheetEdges {
    private static final String COURT = Edges.COURT;
    /** 10 to 14 in a sheet of 16 bits, a shorter one likewise, one of 8 and one of 64 bits. */
    private static final String ROWS = "sheet 0 16 5; write 0 0 10; write 0 1 11; write 0 2 12; write 0 3 13; write 0 4 14; sheet 1 16 3;"
            + "sheet 2 8 5; sheet 3 64 5;";
    private static final String MADE_OF_LIES = "truth 255;" + Edges.one(0, 0, 0, 0);

    static void all(Edges edges) {
        sheet(edges);
        sheetBeyond(edges);
        write(edges);
        writeOfBits(edges);
        copy(edges);
        copyBeyond(edges);
        lays(edges);
        book(edges);
        read(edges);
        readBeyond(edges);
    }

    /** A step for each number of the longest sheet. */
    private static String forty(String step) {
        StringBuilder all = new StringBuilder();
        for (int i = 0; i < 40; i++) {
            all.append(step.replace("#", Integer.toString(i))).append(';');
        }
        return all.toString();
    }

    private static void sheet(Edges edges) {
        edges.at(28, "A sheet has n numbers, all 0, of 8, 16 or 64 bits")
            .answers("sheet 0 8 40 = 40; write 0 39 1 = 0; write 0 40 1 = BEYOND")
            .answers("sheet 3 16 40 = 40; write 3 39 1 = 0; write 3 40 1 = BEYOND")
            .answers("sheet 1 64 40 = 40; write 1 39 1 = 0; write 1 40 1 = BEYOND")
            .answers("sheet 2 8 0 = 0; write 2 0 1 = BEYOND; book 2 = 0").answers("sheet 2 64 0 = 0; lays 2 = 0")
            .answers("sheet 2 16 1 = 1; write 2 0 1 = 0; write 2 1 1 = BEYOND")
            .given("sheet 0 64 3; write 0 0 7; write 0 2 -1").answers("sheet 0 64 3 = 3; write 0 0 0 = 0; write 0 1 0 = 0; write 0 2 0 = 0")
            .answers("sheet 0 64 1 = 1; sheet 0 64 3 = 3; write 0 0 0 = 0; write 0 2 0 = 0")
            .answers("sheet 0 8 3 = 3; write 0 0 300 = 0; write 0 0 0 = 44; write 0 2 0 = 0");
        edges.at(28, "all 0").given("sheet 0 64 40;" + forty("write 0 # -1")).answers("sheet 0 64 40 = 40;" + forty("write 0 # 0 = 0"))
            .answers("sheet 0 16 40 = 40;" + forty("write 0 # 0 = 0")).answers("sheet 0 8 40 = 40;" + forty("write 0 # 0 = 0"))
            .answers("sheet 0 64 1 = 1; sheet 0 64 40 = 40;" + forty("write 0 # 0 = 0"))
            .answers("sheet 0 0 40 = 0; sheet 0 64 40 = 40;" + forty("write 0 # 0 = 0"));
        edges.at(28, "bits 0: it is MISSING: n (0 if it is MISSING).").given("sheet 0 8 3; write 0 0 7")
            .answers("sheet 0 0 0 = 0; write 0 0 0 = MISSING; book 0 = MISSING")
            .answers("sheet 0 0 40 = 0; lays 0 = MISSING; read 0 0 = MISSING").answers("sheet 0 0 1 = 0; sheet 0 8 3 = 3; write 0 0 0 = 0")
            .given("").answers("sheet 3 0 5 = 0; book 3 = MISSING");
    }

    private static void sheetBeyond(Edges edges) {
        edges.at(28, "BEYOND: no such sheet, other bits.").given(COURT).refusesOutside("BEYOND", 0, 3, "sheet # 8 1", "sheet # 0 0")
            .refuses("BEYOND", "sheet 0 -1 1", "sheet 0 1 1", "sheet 0 7 1", "sheet 0 9 1", "sheet 0 15 1", "sheet 0 17 1", "sheet 0 32 1",
                "sheet 0 63 1", "sheet 0 65 1")
            .refuses("BEYOND", "sheet 0 -8 1", "sheet 0 -64 1", "sheet 0 min 1", "sheet 0 max 1", "sheet 0 24 0", "sheet 0 4 1",
                "sheet 0 128 1");
        edges.at(28, "SIZE: n is below 0 (also with bits 0).").given(COURT)
            .refuses("SIZE", "sheet 0 8 -1", "sheet 1 16 -1", "sheet 2 64 -1", "sheet 0 0 -1")
            .refuses("SIZE", "sheet 0 8 min", "sheet 0 0 min", "sheet 3 0 -1", "sheet 3 8 -41");
        edges.at(28, "BEYOND: n is above 40 (also with bits 0).").given(COURT)
            .refuses("BEYOND", "sheet 0 8 41", "sheet 1 16 41", "sheet 2 64 41", "sheet 0 0 41")
            .refuses("BEYOND", "sheet 0 8 max", "sheet 0 0 max", "sheet 3 0 41");
        edges.at(28, Edges.ORDER).given(COURT).refuses("BEYOND", "sheet 4 8 -1", "sheet -1 0 -1", "sheet 0 7 -1", "sheet 0 1 min",
                "sheet 4 7 -1", "sheet max 7 41");
    }

    private static void write(Edges edges) {
        edges.at(29, "Number i of a sheet becomes v").given(ROWS)
            .answers("write 0 0 1 = 10; write 0 4 2 = 14; write 0 0 0 = 1; write 0 4 0 = 2; write 0 1 0 = 11; write 0 3 0 = 13")
            .given("sheet 3 64 40").answers("write 3 39 5 = 0; write 3 39 6 = 5; write 3 38 0 = 0; write 3 0 0 = 0");
        edges.at(29, "BEYOND: no such sheet.").given(COURT).refusesOutside("BEYOND", 0, 3, "write # 0 1")
            .refuses("BEYOND", "write 4 -1 longmin");
        edges.at(29, "MISSING.").given(COURT).refuses("MISSING", "write 3 0 1", "write 3 0 0").given("")
            .refuses("MISSING", "write 0 0 1", "write 1 0 1", "write 2 0 1", "write 3 0 1");
        edges.at(29, "BEYOND: no such number.").given(COURT).refusesOutside("BEYOND", 0, 2, "write 0 # 1")
            .refusesOutside("BEYOND", 0, 1, "write 1 # 1", "write 2 # 1")
            .given("sheet 0 8 0").refuses("BEYOND", "write 0 0 1", "write 0 -1 1", "write 0 39 1", "write 0 40 1");
        edges.at(29, Edges.ORDER).given(COURT).refuses("MISSING", "write 3 -1 1", "write 3 40 1", "write 3 max 1", "write 3 min 1")
            .refuses("BEYOND", "write 4 -1 1", "write -1 -1 1");
    }

    private static void writeOfBits(Edges edges) {
        edges.at(29, "becomes v (its lowest bits): what it was.").given("sheet 0 8 1; sheet 1 16 1; sheet 2 64 1")
            .answers("write 0 0 127; write 0 0 128 = 127; write 0 0 -128 = -128; write 0 0 -129 = -128; write 0 0 255 = 127;"
                + "write 0 0 256 = -1; write 0 0 257 = 0; write 0 0 -256 = 1; write 0 0 65535 = 0;"
                + "write 0 0 4294967296 = -1; write 0 0 longmax = 0; write 0 0 longmin = -1; write 0 0 -1 = 0; write 0 0 0 = -1")
            .answers("write 1 0 32767; write 1 0 32768 = 32767; write 1 0 -32768 = -32768; write 1 0 -32769 = -32768;"
                + "write 1 0 65535 = 32767; write 1 0 65536 = -1; write 1 0 65537 = 0; write 1 0 255 = 1;"
                + "write 1 0 256 = 255; write 1 0 longmax = 256; write 1 0 longmin = -1; write 1 0 4294967299 = 0; write 1 0 -1 = 3;"
                + "write 1 0 0 = -1")
            .answers("write 2 0 longmax; write 2 0 longmin = longmax; write 2 0 4294967296 = longmin; write 2 0 -1 = 4294967296;"
                + "write 2 0 255 = -1; write 2 0 65536 = 255; write 2 0 0 = 65536");
    }

    private static String numbers(int s, long... due) {
        StringBuilder script = new StringBuilder();
        for (int i = 0; i < due.length; i++) {
            script.append(";write ").append(s).append(' ').append(i).append(" 0 = ").append(due[i]);
        }
        return script.toString();
    }

    private static void copy(Edges edges) {
        edges.at(30, "n numbers of a sheet from one on come to another one from one on (as they all were): n.").given(ROWS)
            .answers("copy 0 0 1 0 3 = 3" + numbers(1, 10, 11, 12) + numbers(0, 10, 11, 12, 13, 14))
            .answers("copy 0 2 1 0 3 = 3" + numbers(1, 12, 13, 14))
            .answers("copy 0 4 1 2 1 = 1" + numbers(1, 0, 0, 14)).answers("copy 0 0 0 1 4 = 4" + numbers(0, 10, 10, 11, 12, 13))
            .answers("copy 0 1 0 0 4 = 4" + numbers(0, 11, 12, 13, 14, 14)).answers("copy 0 0 0 0 5 = 5" + numbers(0, 10, 11, 12, 13, 14))
            .answers("copy 0 1 0 2 2 = 2" + numbers(0, 10, 11, 11, 12, 14)).answers("copy 1 0 0 1 3 = 3" + numbers(0, 10, 0, 0, 0, 14))
            .answers("copy 0 0 1 0 0 = 0; copy 0 5 1 3 0 = 0; copy 0 5 1 0 0 = 0; copy 2 5 2 5 0 = 0" + numbers(1, 0, 0, 0))
            .given("sheet 0 8 2; write 0 0 -1; write 0 1 128; sheet 1 8 2; sheet 2 64 2; write 2 0 longmin; write 2 1 longmax;"
                + "sheet 3 64 2")
            .answers("copy 0 0 1 0 2 = 2" + numbers(1, -1, -128))
            .answers("copy 2 0 3 0 2 = 2; write 3 0 0 = longmin; write 3 1 0 = longmax");
    }

    private static void copyBeyond(Edges edges) {
        edges.at(30, "BEYOND: no such sheet (either).").given(COURT).refusesOutside("BEYOND", 0, 3, "copy # 0 0 0 1", "copy 0 0 # 0 1")
            .refuses("BEYOND", "copy 4 0 4 0 0");
        edges.at(30, "MISSING: one is.").given(COURT).refuses("MISSING", "copy 0 0 3 0 1", "copy 3 0 0 0 1", "copy 3 0 3 0 0",
                "copy 3 0 0 0 0", "copy 0 0 3 0 0");
        edges.at(30, "KIND: they are not of as many bits.").given(COURT)
            .refuses("KIND", "copy 0 0 1 0 1", "copy 1 0 0 0 1", "copy 0 0 2 0 1", "copy 2 0 0 0 1", "copy 1 0 2 0 1", "copy 2 0 1 0 0");
        edges.at(30, "BEYOND: one has not so many, or from, to or n is below 0.").given(ROWS)
            .refuses("BEYOND", "copy 0 0 1 0 4", "copy 1 0 0 0 4", "copy 0 0 0 0 6", "copy 0 3 1 0 3", "copy 0 5 1 0 1", "copy 0 0 1 1 3",
                "copy 0 0 1 3 1", "copy 1 0 0 3 3")
            .refuses("BEYOND", "copy 0 -1 1 0 1", "copy 0 0 1 -1 1", "copy 0 0 1 0 -1", "copy 0 -1 0 0 0", "copy 0 0 0 -1 0",
                "copy 0 -1 1 -1 2", "copy 0 2 1 2 -1")
            .refuses("BEYOND", "copy 0 min 1 0 1", "copy 0 0 1 min 1", "copy 0 0 1 0 min", "copy 0 max 1 0 1", "copy 0 0 1 max 1",
                "copy 0 0 1 0 max", "copy 0 1 1 1 max")
            .refuses("BEYOND", "copy 0 max 1 max max", "copy 0 min 1 min min", "copy 0 6 1 0 0", "copy 0 0 1 4 0", "copy 0 max 1 0 0",
                "copy 0 0 1 max 0");
        edges.at(30, Edges.ORDER).given(COURT).refuses("BEYOND", "copy 4 0 3 0 1", "copy 3 0 4 0 1", "copy -1 -1 3 -1 -1",
                "copy 3 0 -1 0 99")
            .refuses("MISSING", "copy 0 -1 3 0 1", "copy 3 0 0 -1 1", "copy 0 0 3 0 -1", "copy 3 99 1 0 99")
            .refuses("KIND", "copy 0 -1 1 0 1", "copy 0 0 2 -1 1", "copy 1 0 2 0 -1", "copy 0 99 1 99 99");
    }

    private static void lays(Edges edges) {
        String words = "Numbers of a sheet become SURE of WITNESSES 0, 1, .. (those that aren't 0 to 9, or stand for none, are left out):"
            + " how many came.";
        edges.at(31, words)
            .given(Edges.EIGHT + "sheet 0 64 4; write 0 0 0; write 0 1 9; write 0 2 -1; write 0 3 10")
            .answers("lays 0 = 2; of 0 3 = 0; of 1 3 = 9; of 2 3 = 3; of 3 3 = 3; of 4 3 = 3; count 3 = 27")
            .answers("write 0 0 longmin; write 0 1 longmax; write 0 2 4294967296; write 0 3 -4294967287; lays 0 = 0; count 3 = 24")
            .answers("sheet 0 8 40; lays 0 = 8; count 3 = 0").answers("sheet 0 8 7; lays 0 = 7; count 3 = 3")
            .answers("sheet 0 8 0; lays 0 = 0; count 3 = 24")
            .answers("sheet 0 8 8; write 0 7 9; lays 0 = 8; of 7 3 = 9; of 6 3 = 0")
            .answers("sheet 0 8 2; write 0 0 265; write 0 1 255; lays 0 = 1; of 0 3 = 9; of 1 3 = 3")
            .answers("sheet 0 16 2; write 0 0 65545; write 0 1 265; lays 0 = 1; of 0 3 = 9; of 1 3 = 3")
            .keeps("sheet 1 8 2; lays 1 = 2; set 0 3 3; set 1 3 3; sheet 1 0 0")
            .given("sheet 0 8 40").answers("lays 0 = 0; count 0 = 0; witness 0 = 0; of 0 3 = 3; lays 0 = 1; of 0 3 = 0");
        edges.at(31, "BEYOND: no such sheet.").given(COURT).refusesOutside("BEYOND", 0, 3, "lays #");
        edges.at(31, "MISSING.").given(COURT).refuses("MISSING", "lays 3").given("witness 0")
            .refuses("MISSING", "lays 0", "lays 1", "lays 2", "lays 3");
    }

    private static void book(Edges edges) {
        edges.at(32, "A book: HEAT ON 0, 1, 2, .. MINUTES comes to a sheet, as many as it has numbers: how many.")
            .given("kettle 0 39; sheet 0 8 40; sheet 1 64 1; sheet 2 16 0")
            .answers("book 0 = 40; write 0 0 0 = 39; write 0 1 0 = 38; write 0 38 0 = 1; write 0 39 0 = 0; now 1 = 39; now 0 = 0")
            .answers("book 1 = 1; write 1 0 0 = 39")
            .answers("book 2 = 0; now 1 = 39").answers("kettle 0 99; book 0 = 40; write 0 0 0 = 99; write 0 39 0 = 60")
            .given(Edges.one(0, 255, 255, 3) + "sheet 0 8 10; write 0 9 -1")
            .answers("book 0 = 10" + numbers(0, 0, 4, 8, 12, 16, 10, 13, 16, 19, 11));
        edges.at(32, "BEYOND: no such sheet.").given(COURT).refusesOutside("BEYOND", 0, 3, "book #");
        edges.at(32, "MISSING.").given(COURT).refuses("MISSING", "book 3").given("")
            .refuses("MISSING", "book 0", "book 1", "book 2", "book 3");
    }

    private static void read(Edges edges) {
        String words = "THE READER, the coroner: numbers of a sheet are HEAT ON 0, 1, 2, .. MINUTES:"
            + " how many pairs of a KIND of one and what it KNOWS (0 to 255) make it just so.";
        edges.at(33, words).given(MADE_OF_LIES)
            .answers("sheet 0 8 0; read 0 0 = 1536").answers("sheet 0 8 1; read 0 0 = 1536")
            .answers("sheet 0 8 1; write 0 0 1; read 0 0 = 0")
            .answers("sheet 0 8 2; read 0 0 = 768; write 0 1 1; read 0 0 = 512; write 0 1 3; read 0 0 = 128; write 0 1 6; read 0 0 = 128;"
                + "write 0 1 2; read 0 0 = 0")
            .answers("sheet 0 64 2; write 0 1 1; read 0 0 = 512; write 0 1 4294967297; read 0 0 = 0; write 0 1 -1; read 0 0 = 0;"
                + "write 0 1 longmin; read 0 0 = 0")
            .answers("sheet 0 64 1; write 0 0 4294967296; read 0 0 = 0; write 0 0 longmin; read 0 0 = 0")
            .answers("sheet 0 8 12; read 0 0 = 260")
            .answers("sheet 0 8 12; write 0 11 1; read 0 0 = 0").answers("truth 0; sheet 0 8 12; read 0 0 = 1536");
        edges.at(33, "(0 to 255)").given(MADE_OF_LIES + "set 0 1 77; turn 0 4; sheet 0 8 2")
            .answers("read 0 0 = 768; of 0 1 = 77; of 0 0 = 4")
            .given("truth 255; kettle 1 3;" + Edges.one(1, 255, 0, 9) + "sheet 0 8 9; book 0").answers("read 0 0 = 1");
    }

    private static void readBeyond(Edges edges) {
        edges.at(33, "BEYOND: no such sheet.").given(COURT).refusesOutside("BEYOND", 0, 3, "read # 0");
        edges.at(33, "MISSING.").given(COURT).refuses("MISSING", "read 3 0").given("witness 0")
            .refuses("MISSING", "read 0 0", "read 1 0", "read 2 0", "read 3 0");
        edges.at(33, "BEYOND: witness.").given(COURT).refusesOutside("BEYOND", 0, 2, "read 0 #", "read 2 #").given("sheet 0 8 1")
            .refuses("BEYOND", "read 0 0", "read 0 -1")
            .given(Edges.EIGHT + "sheet 0 8 1").refuses("BEYOND", "read 0 8").answers("read 0 7 = 1536");
        edges.at(33, "SIZE: the sheet has more than 12 numbers.").given("witness 0; sheet 0 8 13; sheet 1 16 40; sheet 2 64 12")
            .refuses("SIZE", "read 0 0", "read 1 0").answers("read 2 0");
        edges.at(33, Edges.ORDER).given("witness 0; sheet 0 8 13")
            .refuses("BEYOND", "read 0 1", "read 0 -1", "read 0 max", "read 4 0", "read 4 1")
            .refuses("MISSING", "read 1 1", "read 1 -1", "read 3 min");
    }
}
