/** The edges of SLOTS, of count; promises 25 to 27. */
final class SlotsEdges {
    private static final int LEAST = Integer.MIN_VALUE, GREATEST = Integer.MAX_VALUE;

    private final Check check;

    SlotsEdges(Check check) {
        this.check = check;
    }

    void tell(Sentences told) {
        told.holds(Document.TERMS, "SLOTS 0 to 1 keep LENGTH, LEAVES of all, THE SOUP, who is SERVED", this::whatIsKept);
        told.holds(Document.TERMS, "(THE ROW of ACTS is empty when one goes on).", this::withoutActs);
        told.holds(25, "They are kept: LENGTH.", this::kept);
        told.holds(25, "UNKNOWN.", this::keptNowhere);
        told.holds(26, "They are as they were kept: LENGTH.", this::asTheyWere);
        told.holds(26, "UNKNOWN;", this::againNowhere);
        told.holds(26, "STATE: none were kept.", this::noneWereKept);
        told.holds(27, "0 letters of THE TEXT,", this::letters);
        told.holds(27, "1 GUESTS,", this::guests);
        told.holds(27, "2 LENGTH,", this::length);
        told.holds(27, "3 REACH,", this::reach);
        told.holds(27, "4 the LEAF of THE SOUP,", this::leafOfTheSoup);
        told.holds(27, "5 how warm it is,", this::howWarm);
        told.holds(27, "6 who is SERVED (bits),", this::whoIsServed);
        told.holds(27, "7 who HEARS (bits),", this::whoHears);
        told.holds(27, "8 ACTS in the row,", this::acts);
        told.holds(27, "9 DINNERS,", this::dinners);
        told.holds(27, "10 WARM.", this::warm);
        told.holds(27, "OUTSIDE.", this::noSuchCount);
    }

    private void again(LeafTable table, int slot, int want) {
        check.due("again(" + slot + ")", table.again(slot), want);
    }

    private void whatIsKept() {
        for (int slot = 0; slot <= 1; slot++) {
            LeafTable table = Check.laid("T0991G02000G04200G06300");
            table.say(0);
            table.pass(1);
            table.keep(slot);
            check.counts("kept", table, 10, 5, 4, 2);
            table.say(1);
            table.fetch();
            table.pass(0);
            check.counts("gone on", table, 12, 2, 7, 3);
            check.leaves("gone on", table, 2, 5, 9);
            again(table, slot, 10);
            check.counts("again", table, 10, 5, 4, 2);
            check.leaves("again", table, 2, 5, 7);
        }
        // neither THE TEXT nor DINNERS nor THE SEED
        LeafTable others = Check.laid("T0991G02000");
        others.keep(0);
        others.dine(1000, 1);
        others.seed(5);
        others.write('G');
        again(others, 0, 9);
        check.due("DINNERS", others.count(9), 1);
        check.due("THE SEED", others.seed(0), 5);
        check.due("THE TEXT", others.count(0), 12);
    }

    private void withoutActs() {
        LeafTable table = Check.laid("T0991G02000");
        table.say(0);
        table.keep(0);
        check.due("keep leaves the row", table.count(8), 1);
        table.pass(0);
        again(table, 0, 10);
        check.due("ACTS", table.count(8), 0);
        check.due("undo()", table.undo(), LeafTable.STATE);
        check.due("LENGTH", table.count(2), 10);
        table.say(0);
        check.due("a row again", table.undo(), 0);
        check.due("LENGTH undone", table.count(2), 10);
    }

    private void kept() {
        LeafTable table = Check.laid("T0991G02000");
        check.due("keep(0)", table.keep(0), 9);
        table.say(0);
        check.due("keep(1)", table.keep(1), 10);
        table.say(0);
        check.due("keep(0) over it", table.keep(0), 11);
        again(table, 1, 10);
        again(table, 0, 11);
        check.due("keep(0) of a new object", new LeafTable().keep(0), 1);
        check.due("keep(1) of a new object", new LeafTable().keep(1), 1);
    }

    private void keptNowhere() {
        LeafTable table = Check.laid("T0991G02000");
        int[] wrong = {-1, 2, 3, LEAST, GREATEST};
        for (int slot : wrong) {
            check.due("keep(" + slot + ")", table.keep(slot), LeafTable.UNKNOWN);
        }
        again(table, 0, LeafTable.STATE);
        again(table, 1, LeafTable.STATE);
        check.due("keep(0)", table.keep(0), 9);
        check.due("keep(1)", table.keep(1), 9);
    }

    private void asTheyWere() {
        LeafTable table = Check.laid("T0991G02000G04300");
        table.pass(0);
        table.keep(1);
        for (int i = 0; i < 3; i++) {
            table.say(0);
            table.pass(1);
            again(table, 1, 9);
            check.counts("as often as asked", table, 9, 2, 7, 1);
            check.leaves("as often as asked", table, 2, 4);
        }
        table.keep(0);
        table.say(0);
        again(table, 0, 9);
        again(table, 1, 9);
    }

    private void againNowhere() {
        LeafTable table = Check.laid("T0991G02000");
        table.keep(0);
        table.keep(1);
        int[] wrong = {-1, 2, 3, LEAST, GREATEST};
        for (int slot : wrong) {
            again(table, slot, LeafTable.UNKNOWN);
            again(new LeafTable(), slot, LeafTable.UNKNOWN);
        }
        again(table, 0, 9);
        again(table, 1, 9);
    }

    private void noneWereKept() {
        again(new LeafTable(), 0, LeafTable.STATE);
        again(new LeafTable(), 1, LeafTable.STATE);
        LeafTable first = Check.laid("T0991G02000");
        first.keep(0);
        again(first, 1, LeafTable.STATE);
        again(first, 0, 9);
        LeafTable second = Check.laid("T0991G02000");
        second.keep(1);
        again(second, 0, LeafTable.STATE);
        again(second, 1, 9);
        second.lay();
        again(second, 1, LeafTable.STATE);
        LeafTable refused = Check.laid("T0991G02000");
        refused.keep(0);
        refused.write('x');
        refused.lay();
        again(refused, 0, 9);
    }

    // ---- counts

    private void count(LeafTable table, int what, int want) {
        check.due("count(" + what + ")", table.count(what), want);
    }

    private void letters() {
        LeafTable table = new LeafTable();
        count(table, 0, 0);
        for (int i = 1; i <= 41; i++) {
            table.write('T');
            count(table, 0, Math.min(i, 40));
        }
        table.wipe();
        count(table, 0, 0);
    }

    private void guests() {
        count(new LeafTable(), 1, 0);
        count(Check.laid("T0991"), 1, 0);
        count(Check.laid("T0991G02000"), 1, 1);
        count(Check.laid("T0991G00000G01000G02000G03000G04000"), 1, 5);
        count(Check.written("T0991G02000"), 1, 0);
    }

    private void length() {
        count(new LeafTable(), 2, 1);
        count(Check.laid("T0191"), 2, 1);
        count(Check.laid("T3091"), 2, 30);
        LeafTable table = Check.laid("T3091G00200");
        for (int i = 1; i <= 16; i++) {
            table.say(0);
            count(table, 2, Math.min(30 + 2 * i, 60));
        }
        count(Check.written("T3091"), 2, 1);
    }

    private void reach() {
        count(new LeafTable(), 3, 1);
        count(Check.laid("T0991"), 3, 1);
        count(Check.laid("T0919"), 3, 9);
    }

    private void leafOfTheSoup() {
        LeafTable table = Check.laid("T3091G29000G00000");
        count(table, 4, 0);
        table.pass(0);
        count(table, 4, 29);
        table.say(1);
        count(table, 4, 30);
        table.pass(1);
        count(table, 4, 0);
        LeafTable farthest = Check.laid("T3091G29000G00200");
        for (int i = 0; i < 15; i++) {
            farthest.say(1);
        }
        farthest.pass(0);
        count(farthest, 4, 59);
    }

    private void howWarm() {
        count(new LeafTable(), 5, 1);
        LeafTable table = Check.laid("T0991G08000G07000G05000");
        count(table, 5, 9);
        table.pass(0);
        count(table, 5, 1);
        table.pass(1);
        count(table, 5, 0);
        table.pass(2);
        count(table, 5, 0);
    }

    private void whoIsServed() {
        LeafTable table = Check.laid("T0991G00000G01000G02000G03090G04000");
        count(table, 6, 0);
        table.pass(4);
        count(table, 6, 16);
        table.pass(0);
        count(table, 6, 17);
        table.pass(3);
        count(table, 6, 17);
        table.pass(1);
        table.pass(2);
        count(table, 6, 23);
    }

    private void whoHears() {
        count(new LeafTable(), 7, 0);
        count(Check.laid("T0991G01000G03000"), 7, 1);
        count(Check.laid("T0991G03000G01000"), 7, 2);
        count(Check.laid("T0991G04000G03000G02000G01000G00000"), 7, 31);
        count(Check.laid("T0991G05000G03000G02000G01000G00000"), 7, 30);
    }

    private void acts() {
        LeafTable table = Check.laid("T0991G00000");
        count(table, 8, 0);
        for (int i = 1; i <= 16; i++) {
            table.pass(0);
            count(table, 8, Math.min(i, 14));
        }
        table.undo();
        count(table, 8, 13);
    }

    private void dinners() {
        LeafTable table = new LeafTable();
        count(table, 9, 0);
        for (int i = 1; i <= 8; i++) {
            table.dine(0, 0);
            count(table, 9, Math.min(i, 6));
        }
        table.clear();
        count(table, 9, 0);
    }

    private void warm() {
        count(new LeafTable(), 10, 1);
        count(Check.laid("T0919"), 10, 1);
        LeafTable table = Check.laid("T0991G05000");
        count(table, 10, 9);
        table.pass(0);
        count(table, 10, 9);
    }

    private void noSuchCount() {
        int[] wrong = {-1, 11, 12, LEAST, GREATEST};
        for (int what : wrong) {
            count(new LeafTable(), what, LeafTable.OUTSIDE);
            count(Check.laid("T0991G05000"), what, LeafTable.OUTSIDE);
        }
    }
}
