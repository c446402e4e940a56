/** The edges of DINNERS and LAWS; promises 18 to 20. */
final class LawsEdges {
    private static final int LEAST = Integer.MIN_VALUE, GREATEST = Integer.MAX_VALUE, NONE = LeafTable.NONE;

    private final Check check;

    LawsEdges(Check check) {
        this.check = check;
    }

    void tell(Sentences told) {
        told.holds(Document.TERMS, "DINNERS: that so many BUSY, STAYING, FLATTERING, SILENT ones (0 to 9 each, as four figures)"
            + " spoke,", this::fourFigures);
        told.holds(Document.TERMS, "and LENGTH was v (-40 to 40) more:", this::fortyMore);
        told.holds(Document.TERMS, "6 such at most, none at first.", this::sixDinners);
        told.holds(Document.TERMS, "LAWS: by how many LEAVES each KIND may change it (-1 to 2 each), so that all DINNERS are so:"
            + " how many;", this::howManyLaws);
        told.holds(Document.TERMS, "the first (by KINDS in order, as four figures, 1 more each);", this::firstLaw);
        told.holds(Document.TERMS, "which KIND is the same in all (bits);", this::sameInAll);
        told.holds(Document.TERMS, "NONE (of the latter two): there are none.", this::noLaw);
        told.holds(18, "A DINNER: how many there are.", this::howManyDinners);
        told.holds(18, "OUTSIDE: spoke (0 to 9999),", this::noSuchSpeakers);
        told.holds(18, "v;", this::noSuchChange);
        told.holds(18, "FULL: 6.", this::noSeventh);
        told.holds(19, "There are no DINNERS: how many there were.", this::cleared);
        told.holds(20, "LAWS: how many (what = 0), the first (1), which KINDS are the same in all (2: bits); NONE.",
            this::lawsAsAsked);
        told.holds(20, "OUTSIDE.", this::noSuchLaw);
    }

    private void laws(LeafTable table, int many, int first, int same) {
        check.due("laws(0)", table.laws(0), many);
        check.due("laws(1)", table.laws(1), first);
        check.due("laws(2)", table.laws(2), same);
    }

    /** Dinners told in pairs: who spoke, how much longer it was. */
    private static LeafTable dined(int... dinners) {
        LeafTable table = new LeafTable();
        for (int i = 0; i + 1 < dinners.length; i += 2) {
            table.dine(dinners[i], dinners[i + 1]);
        }
        return table;
    }

    private void fourFigures() {
        // the foremost is BUSY, foremost figures that are 0 are told as well
        laws(dined(1000, 2), 64, 3000, 1);
        laws(dined(100, 2), 64, 300, 2);
        laws(dined(10, 2), 64, 30, 4);
        laws(dined(1, 2), 64, 3, 8);
        laws(dined(9000, 18), 64, 3000, 1);
        laws(dined(9, -9), 64, 0, 8);
        laws(dined(0, 0), 256, 0, 0);
        laws(dined(9999, -36), 1, 0, 15);
        check.due("dine(9999, 40)", new LeafTable().dine(9999, 40), 1);
        check.due("dine(10000, 40)", new LeafTable().dine(10000, 40), LeafTable.OUTSIDE);
    }

    private void fortyMore() {
        check.due("dine(1, 40)", new LeafTable().dine(1, 40), 1);
        check.due("dine(1, -40)", new LeafTable().dine(1, -40), 1);
        check.due("dine(1, 41)", new LeafTable().dine(1, 41), LeafTable.OUTSIDE);
        check.due("dine(1, -41)", new LeafTable().dine(1, -41), LeafTable.OUTSIDE);
        // 8 BUSY, STAYING, FLATTERING ones at 2 each are 48; at 5 altogether they are 40
        laws(dined(8880, 40), 12, 2330, 0);
        laws(dined(9990, -27), 4, 0, 7);
    }

    private void sixDinners() {
        LeafTable table = new LeafTable();
        check.due("none at first", table.count(9), 0);
        laws(table, 256, 0, 0);
        for (int i = 1; i <= 6; i++) {
            check.due("dine " + i, table.dine(1, 0), i);
        }
        check.due("a seventh", table.dine(1, 0), LeafTable.FULL);
        check.due("count(9)", table.count(9), 6);
        // all six count, the sixth too
        laws(dined(1000, 1, 1000, 1, 1000, 1, 1000, 1, 1000, 1, 100, 2), 16, 2300, 3);
    }

    private void howManyLaws() {
        laws(dined(1000, -1), 64, 0, 1);
        laws(dined(1000, 2), 64, 3000, 1);
        check.due("-2 is no law", dined(1000, -2).laws(0), 0);
        check.due("3 is no law", dined(1000, 3).laws(0), 0);
        check.due("one law", dined(1000, 1, 100, -1, 10, 2, 1, 0).laws(0), 1);
        check.due("-1 and 1, 0 and 0, 1 and -1", dined(1100, 0).laws(0), 48);
        check.due("all DINNERS", dined(1100, 0, 1000, 1).laws(0), 16);
        check.due("one of them is not so", dined(1000, 1, 100, -1, 10, 2, 1, 0, 1111, 3).laws(0), 0);
    }

    private void firstLaw() {
        check.due("all -1", dined().laws(1), 0);
        check.due("all 2", dined(1000, 2, 100, 2, 10, 2, 1, 2).laws(1), 3333);
        check.due("BUSY least", dined(1100, 0).laws(1), 200);
        check.due("then STAYING", dined(1000, 0, 110, 0).laws(1), 1020);
        check.due("then FLATTERING", dined(11, 0).laws(1), 2);
        check.due("as four figures", dined(1000, 1, 100, -1, 10, 2, 1, 0).laws(1), 2031);
    }

    private void sameInAll() {
        check.due("none", dined().laws(2), 0);
        check.due("BUSY", dined(1000, 0).laws(2), 1);
        check.due("STAYING", dined(100, 0).laws(2), 2);
        check.due("FLATTERING", dined(10, 0).laws(2), 4);
        check.due("SILENT", dined(1, 0).laws(2), 8);
        check.due("all of one law", dined(9999, -36).laws(2), 15);
        check.due("the sum alone", dined(1100, 0).laws(2), 0);
        check.due("two of them at their greatest", dined(1100, 4).laws(2), 3);
        check.due("told by two", dined(1100, 0, 1000, 1).laws(2), 3);
    }

    private void noLaw() {
        laws(dined(0, 1), 0, NONE, NONE);
        laws(dined(1000, 3), 0, NONE, NONE);
        laws(dined(2000, 1), 0, NONE, NONE);
        laws(dined(1000, 1, 1000, 2), 0, NONE, NONE);
        LeafTable table = dined(0, -1);
        table.clear();
        laws(table, 256, 0, 0);
    }

    private void howManyDinners() {
        LeafTable table = new LeafTable();
        for (int i = 1; i <= 6; i++) {
            check.due("dine " + i, table.dine(1000, 1), i);
            check.due("count(9)", table.count(9), i);
        }
    }

    private void noSuchSpeakers() {
        LeafTable table = new LeafTable();
        int[] wrong = {-1, 10000, 10001, LEAST, GREATEST};
        for (int spoke : wrong) {
            check.due("dine(" + spoke + ", 0)", table.dine(spoke, 0), LeafTable.OUTSIDE);
        }
        check.due("count(9)", table.count(9), 0);
        check.due("dine(0, 0)", table.dine(0, 0), 1);
        check.due("dine(9999, 0)", table.dine(9999, 0), 2);
    }

    private void noSuchChange() {
        LeafTable table = new LeafTable();
        int[] wrong = {-41, 41, 42, LEAST, GREATEST};
        for (int v : wrong) {
            check.due("dine(1000, " + v + ")", table.dine(1000, v), LeafTable.OUTSIDE);
        }
        check.due("count(9)", table.count(9), 0);
        check.due("dine(1000, -40)", table.dine(1000, -40), 1);
        check.due("dine(1000, 40)", table.dine(1000, 40), 2);
    }

    private void noSeventh() {
        LeafTable table = dined(1000, 1, 1000, 1, 1000, 1, 1000, 1, 1000, 1);
        check.due("the sixth", table.dine(1000, 1), 6);
        check.due("the seventh", table.dine(100, 2), LeafTable.FULL);
        laws(table, 64, 2000, 1);
        table.clear();
        check.due("room again", table.dine(1000, 1), 1);
    }

    private void cleared() {
        LeafTable table = new LeafTable();
        check.due("clear() of none", table.clear(), 0);
        for (int i = 0; i < 7; i++) {
            table.dine(1000, 1);
        }
        check.due("clear() of six", table.clear(), 6);
        check.due("clear() once more", table.clear(), 0);
        check.due("count(9)", table.count(9), 0);
        laws(table, 256, 0, 0);
        table.dine(100, 2);
        laws(table, 64, 300, 2);
        check.due("clear() of one", table.clear(), 1);
    }

    private void lawsAsAsked() {
        LeafTable table = dined(100, -1, 1, 0, 1010, 3);
        check.due("laws(0)", table.laws(0), 2);
        check.due("laws(1)", table.laws(1), 2031);
        check.due("laws(2)", table.laws(2), 10);
        table.dine(0, 1);
        check.due("none: laws(0)", table.laws(0), 0);
        check.due("none: laws(1)", table.laws(1), NONE);
        check.due("none: laws(2)", table.laws(2), NONE);
    }

    private void noSuchLaw() {
        int[] wrong = {-1, 3, 4, LEAST, GREATEST};
        for (int what : wrong) {
            check.due("laws(" + what + ")", new LeafTable().laws(what), LeafTable.OUTSIDE);
            check.due("laws(" + what + ") of none", dined(0, 1).laws(what), LeafTable.OUTSIDE);
        }
    }
}
