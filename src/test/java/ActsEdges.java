/** The edges of what is SAID, PASSED, FETCHED, undone, of who is NEAR and HEARS; promises 7 to 10. */
final class ActsEdges {
    private static final int LEAST = Integer.MIN_VALUE, GREATEST = Integer.MAX_VALUE;

    private final Check check;

    ActsEdges(Check check) {
        this.check = check;
    }

    void tell(Sentences told) {
        tellTerms(told);
        told.holds(7, "SAID: LENGTH then.", this::lengthThen);
        told.holds(7, "UNKNOWN;", this::nobodySays);
        told.holds(7, "STATE: it can not (STAYING,", this::stayingCanNot);
        told.holds(7, "or LENGTH would be more than 60).", this::tooLong);
        told.holds(8, "PASSED: how warm it is then.", this::warmThen);
        told.holds(8, "UNKNOWN.", this::passedToNobody);
        told.holds(9, "FETCHED: how warm it was.", this::warmBefore);
        told.holds(10, "The last ACT is undone: how many are left.", this::howManyLeft);
        told.holds(10, "STATE: there is none.", this::nothingToUndo);
    }

    private void tellTerms(Sentences told) {
        told.holds(Document.TERMS, "SAID by a GUEST: BUSY: a LEAF more right behind its own;", this::busy);
        told.holds(Document.TERMS, "FLATTERING: two more;", this::flattering);
        told.holds(Document.TERMS, "SILENT: none;", this::silent);
        told.holds(Document.TERMS, "STAYING: the LEAF behind its own is gone (it must be there, and nobody sit on it).",
            this::staying);
        told.holds(Document.TERMS, "Who sits farther, and THE SOUP if it is farther, goes on, or back, with the LEAVES",
            this::farther);
        told.holds(Document.TERMS, "(THE SOUP on the LEAF that goes: to the LEAF of the GUEST).", this::soupStaysWithGuest);
        told.holds(Document.TERMS, "LENGTH is at most 60.", this::sixty);
        told.holds(Document.TERMS, "PASSED to a GUEST: THE SOUP goes to its LEAF, as many less warm as LEAVES that is"
            + " (0 at least);", this::passed);
        told.holds(Document.TERMS, "if it is as warm as the GUEST wants it, or warmer, it is SERVED from then on.",
            this::served);
        told.holds(Document.TERMS, "FETCHED: THE SOUP is on LEAF 0 again, WARM warm.", this::fetched);
        told.holds(Document.TERMS, "ACTS (SAID, PASSED, FETCHED) are a row (14 at most; of more the first one is forgotten);",
            this::fourteen);
        told.holds(Document.TERMS, "the last one can be undone.", this::undone);
        told.holds(Document.TERMS, "NEAR are two GUESTS that sit next to each other (nobody between), no more LEAVES apart"
            + " than REACH.", this::near);
        told.holds(Document.TERMS, "Who HEARS the head: the first GUEST (on the least LEAF), if it sits no farther than REACH"
            + " from LEAF 0,", this::firstHears);
        told.holds(Document.TERMS, "and each next one that is NEAR one that HEARS.", this::nextHear);
    }

    private void says(LeafTable table, int guest, int want) {
        check.due("say(" + guest + ")", table.say(guest), want);
    }

    /** So many leaves; FLATTERING (0), BUSY (1), STAYING (2) sit on the first ones, SILENT (3) on the last one. */
    private static LeafTable longOf(int leaves) {
        return Check.lengthened("T3091G00200G01000G02100G29300", leaves);
    }

    // ---- terms

    private void busy() {
        LeafTable table = Check.laid("T0399G00000G01300G02000");
        says(table, 0, 4);
        check.leaves("right behind the first", table, 0, 2, 3);
        says(table, 2, 5);
        check.leaves("behind the last", table, 0, 2, 3);
        says(Check.laid("T0199G00000"), 0, 2);
    }

    private void flattering() {
        LeafTable table = Check.laid("T0399G00200G01300G02200");
        says(table, 0, 5);
        check.leaves("right behind the first", table, 0, 3, 4);
        says(table, 2, 7);
        check.leaves("behind the last", table, 0, 3, 4);
        says(Check.laid("T0199G00200"), 0, 3);
    }

    private void silent() {
        LeafTable table = Check.laid("T0399G00300G01300G02300");
        for (int guest = 0; guest < 3; guest++) {
            says(table, guest, 3);
        }
        check.leaves("all silent", table, 0, 1, 2);
        check.due("it is an ACT all the same", table.count(8), 3);
        says(Check.laid("T0199G00300"), 0, 1);
    }

    private void staying() {
        LeafTable last = Check.laid("T0399G02100");
        says(last, 0, LeafTable.STATE);
        LeafTable oneLeft = Check.laid("T0399G01100");
        says(oneLeft, 0, 2);
        says(oneLeft, 0, LeafTable.STATE);
        LeafTable sat = Check.laid("T0399G00100G01300");
        says(sat, 0, LeafTable.STATE);
        check.leaves("somebody sits there", sat, 0, 1);
        LeafTable between = Check.laid("T0499G00100G02300");
        says(between, 0, 3);
        check.leaves("the free one is gone", between, 0, 1);
        says(between, 0, LeafTable.STATE);
        LeafTable both = Check.laid("T0399G01100G00100");
        says(both, 1, LeafTable.STATE);
        says(both, 0, 2);
        check.leaves("both", both, 1, 0);
        says(Check.laid("T0199G00100"), 0, LeafTable.STATE);
    }

    /** One nearer, the speaker, one farther; THE SOUP at each of them when it is said. */
    private void farther() {
        int[] more = {1, -1, 2, 0};
        for (int kind = 0; kind <= 3; kind++) {
            for (int at = 0; at <= 2; at++) {
                LeafTable table = Check.laid("T0999G02300G03" + kind + "00G05300");
                table.pass(at);
                says(table, 1, 9 + more[kind]);
                check.leaves("KIND " + kind, table, 2, 3, 5 + more[kind]);
                check.due("THE SOUP at " + at, table.count(4), table.guest(at, 0));
            }
            LeafTable head = Check.laid("T0999G00" + kind + "00");
            says(head, 0, 9 + more[kind]);
            check.due("THE SOUP on LEAF 0", head.count(4), 0);
            check.leaves("the speaker", head, 0);
        }
    }

    /**
     * THE SOUP is on LEAF 0 or where one sits, so the LEAF that goes is never its own: all rows of four acts keep
     * it where it was passed, whoever says what.
     */
    private void soupStaysWithGuest() {
        LeafTable own = Check.laid("T0599G02100");
        own.pass(0);
        says(own, 0, 4);
        check.counts("on the speaker's LEAF", own, 4, 2, 7, 1);
        LeafTable head = Check.laid("T0599G00100");
        says(head, 0, 4);
        check.counts("on LEAF 0", head, 4, 0, 9, 0);
        for (int row = 0; row < 7 * 7 * 7 * 7; row++) {
            soupOf(row);
        }
    }

    private void soupOf(int row) {
        LeafTable table = Check.laid("T0599G01100G03000G02200");
        int at = -1;
        for (int rest = row + 7 * 7 * 7 * 7; rest > 1; rest /= 7) {
            int act = rest % 7;
            if (act < 3) {
                table.say(act);
            } else if (act < 6) {
                table.pass(act - 3);
                at = act - 3;
            } else {
                table.fetch();
                at = -1;
            }
        }
        check.due("row " + row + ": count(4)", table.count(4), at < 0 ? 0 : table.guest(at, 0));
    }

    private void sixty() {
        says(longOf(59), 1, 60);
        says(longOf(60), 1, LeafTable.STATE);
        says(longOf(58), 0, 60);
        says(longOf(59), 0, LeafTable.STATE);
        says(longOf(60), 0, LeafTable.STATE);
        says(longOf(60), 2, 59);
        says(longOf(60), 3, 60);
        LeafTable table = longOf(60);
        says(table, 2, 59);
        says(table, 1, 60);
        check.due("the farthest at 60", table.guest(3, 0), 59);
    }

    private void passed() {
        LeafTable table = Check.laid("T0991G02000G05000G00000");
        check.due("no LEAF away", table.pass(2), 9);
        check.due("two on", table.pass(0), 7);
        check.due("three on", table.pass(1), 4);
        check.due("three back", table.pass(0), 1);
        check.due("where it is", table.pass(0), 1);
        check.counts("so far", table, 9, 2, 1, 7);
        check.due("two back, 0 at least", table.pass(2), 0);
        check.due("five on, still 0", table.pass(1), 0);
        check.due("THE SOUP went along", table.count(4), 5);
        check.due("just 0", Check.laid("T0951G05000").pass(0), 0);
        check.due("just 1", Check.laid("T0961G05000").pass(0), 1);
        check.due("29 LEAVES on", Check.laid("T3091G29000").pass(0), 0);
    }

    private void served() {
        for (int wish = 0; wish <= 9; wish++) {
            LeafTable table = Check.laid("T0961G01300G02" + "3" + wish + "0");
            table.pass(1);
            check.due("4 warm for one that wants " + wish, table.count(6), wish <= 4 ? 2 : 0);
        }
        LeafTable cold = Check.laid("T0911G05000G06010");
        cold.pass(0);
        check.due("0 warm for one that wants 0", cold.count(6), 1);
        cold.pass(1);
        check.due("0 warm for one that wants 1", cold.count(6), 1);
        LeafTable table = Check.laid("T0961G02040G08300");
        table.pass(0);
        table.pass(1);
        table.pass(0);
        check.due("from then on, cold again", table.count(6) & 1, 1);
        table.fetch();
        check.due("from then on, fetched", table.count(6) & 1, 1);
        table.say(0);
        check.due("from then on, said", table.count(6) & 1, 1);
    }

    private void fetched() {
        LeafTable table = Check.laid("T0971G05000");
        table.fetch();
        check.counts("fetched at first", table, 9, 0, 7, 0);
        table.pass(0);
        table.say(0);
        table.fetch();
        check.counts("fetched from afar", table, 10, 0, 7, 1);
        table.fetch();
        check.counts("fetched twice", table, 10, 0, 7, 1);
        LeafTable fresh = new LeafTable();
        fresh.fetch();
        check.counts("of a new object", fresh, 1, 0, 1, 0);
    }

    private void fourteen() {
        LeafTable table = Check.laid("T0991G02000");
        int[] behind = new int[18];
        behind[0] = stateOf(table);
        for (int i = 1; i <= 17; i++) {
            act(table, i);
            behind[i] = stateOf(table);
            check.due("ACTS behind " + i, table.count(8), Math.min(i, 14));
        }
        check.due("LENGTH behind 17", table.count(2), 15);
        for (int left = 13; left >= 0; left--) {
            check.due("undo()", table.undo(), left);
            check.due("as it was behind " + (left + 3), stateOf(table), behind[left + 3]);
        }
        check.due("the first three are forgotten", table.undo(), LeafTable.STATE);
        check.due("as it was behind 3", stateOf(table), behind[3]);
    }

    /** LENGTH, the leaf of THE SOUP, how warm it is, as figures. */
    private static int stateOf(LeafTable table) {
        return table.count(2) * 10000 + table.count(4) * 100 + table.count(5);
    }

    /** SAID, PASSED and FETCHED in turn, the first being SAID. */
    private static void act(LeafTable table, int number) {
        if (number % 3 == 1) {
            table.say(0);
        } else if (number % 3 == 2) {
            table.pass(0);
        } else {
            table.fetch();
        }
    }

    private void undone() {
        int[] more = {1, -1, 2, 0};
        for (int kind = 0; kind <= 3; kind++) {
            LeafTable said = Check.laid("T0991G01" + kind + "00G04000");
            said.pass(1);
            says(said, 0, 9 + more[kind]);
            said.undo();
            check.counts("SAID undone", said, 9, 4, 5, 2);
            check.leaves("SAID undone", said, 1, 4);
        }
        LeafTable table = Check.laid("T0991G03000G04000");
        table.pass(0);
        table.pass(1);
        table.undo();
        check.counts("PASSED undone", table, 9, 3, 6, 1);
        table.fetch();
        table.undo();
        check.counts("FETCHED undone", table, 9, 3, 6, 1);
        table.pass(0);
        table.undo();
        check.counts("SERVED ahead of it", table, 9, 3, 6, 1);
        table.undo();
        check.counts("all undone", table, 9, 0, 9, 0);
        table.say(0);
        check.due("a row again", table.undo(), 0);
    }

    private void hearers(String text, int want) {
        check.due("count(7) of " + text, Check.laid(text).count(7), want);
    }

    private void near() {
        for (int reach = 1; reach <= 9; reach++) {
            String ahead = "T301" + reach + "G01000G";
            hearers(ahead + (reach + 1 < 10 ? "0" : "") + (reach + 1) + "000", 3);
            hearers(ahead + (reach + 2 < 10 ? "0" : "") + (reach + 2) + "000", 1);
        }
        // who sits between two carries the word on, or, told later, all the same
        hearers("T3013G03000G09000G06000", 7);
        hearers("T3013G03000G09000", 1);
    }

    private void firstHears() {
        for (int reach = 1; reach <= 9; reach++) {
            hearers("T301" + reach + "G00000", 1);
            hearers("T301" + reach + "G0" + reach + "000", 1);
            hearers("T301" + reach + "G" + (reach + 1 < 10 ? "0" : "") + (reach + 1) + "000", 0);
        }
        hearers("T3015", 0);
        hearers("T3015G09000G05000", 3);
        hearers("T3015G06000G05000", 3);
        hearers("T3015G06000G07000", 0);
    }

    private void nextHear() {
        hearers("T3012G00000G02000G04000G06000G08000", 31);
        hearers("T3012G00000G02000G05000G06000G08000", 3);
        hearers("T3012G08000G06000G04000G02000G00000", 31);
        hearers("T3012G08000G06000G05000G02000G00000", 24);
        LeafTable table = Check.laid("T3012G00000G02000G04000");
        table.say(0);
        check.due("who is out of REACH, and all behind", table.count(7), 1);
        table.undo();
        check.due("near again", table.count(7), 7);
    }

    // ---- promises

    private void lengthThen() {
        LeafTable table = Check.laid("T0991G01000G02100G04200G06300");
        says(table, 0, 10);
        says(table, 1, 9);
        says(table, 2, 11);
        says(table, 3, 11);
        check.due("count(2)", table.count(2), 11);
    }

    private void nobodySays() {
        LeafTable two = Check.laid("T0991G01000G02000");
        int[] wrong = {-1, 2, 4, 5, LEAST, GREATEST};
        for (int guest : wrong) {
            says(two, guest, LeafTable.UNKNOWN);
        }
        says(Check.laid("T0991G00000G01000G02000G03000G04000"), 5, LeafTable.UNKNOWN);
        says(new LeafTable(), 0, LeafTable.UNKNOWN);
        check.due("ACTS", two.count(8), 0);
    }

    private void stayingCanNot() {
        LeafTable last = Check.laid("T0991G08100");
        says(last, 0, LeafTable.STATE);
        check.due("no ACT", last.count(8), 0);
        LeafTable sat = Check.laid("T0991G03000G02100");
        says(sat, 1, LeafTable.STATE);
        says(sat, 0, 10);
        says(sat, 1, LeafTable.STATE);
        check.due("LENGTH", sat.count(2), 10);
        check.due("one ACT", sat.count(8), 1);
    }

    private void tooLong() {
        LeafTable table = longOf(59);
        says(table, 0, LeafTable.STATE);
        check.due("LENGTH at 59", table.count(2), 59);
        says(table, 1, 60);
        says(table, 0, LeafTable.STATE);
        says(table, 1, LeafTable.STATE);
        check.due("LENGTH at 60", table.count(2), 60);
        says(table, 3, 60);
    }

    private void warmThen() {
        LeafTable table = Check.laid("T0931G00000G02000G04000");
        check.due("pass(0)", table.pass(0), 3);
        check.due("pass(1)", table.pass(1), 1);
        check.due("pass(2)", table.pass(2), 0);
        check.due("count(5)", table.count(5), 0);
    }

    private void passedToNobody() {
        LeafTable two = Check.laid("T0991G01000G02000");
        int[] wrong = {-1, 2, 4, 5, LEAST, GREATEST};
        for (int guest : wrong) {
            check.due("pass(" + guest + ")", two.pass(guest), LeafTable.UNKNOWN);
        }
        check.due("pass(0) of none", new LeafTable().pass(0), LeafTable.UNKNOWN);
        check.due("pass(5) of five", Check.laid("T0991G00000G01000G02000G03000G04000").pass(5), LeafTable.UNKNOWN);
        check.counts("nothing passed", two, 9, 0, 9, 0);
    }

    private void warmBefore() {
        LeafTable table = Check.laid("T0931G00000G02000G04000");
        check.due("fetch() at first", table.fetch(), 3);
        table.pass(1);
        check.due("fetch() of 1 warm", table.fetch(), 1);
        table.pass(2);
        check.due("fetch() of 0 warm", table.fetch(), 0);
        check.due("fetch() of a fetched one", table.fetch(), 3);
        check.due("fetch() of a new object", new LeafTable().fetch(), 1);
    }

    private void howManyLeft() {
        LeafTable table = Check.laid("T0991G01000");
        table.say(0);
        table.pass(0);
        table.fetch();
        check.due("undo() of three", table.undo(), 2);
        check.due("undo() of two", table.undo(), 1);
        check.due("undo() of one", table.undo(), 0);
        check.due("count(8)", table.count(8), 0);
    }

    private void nothingToUndo() {
        check.due("undo() of a new object", new LeafTable().undo(), LeafTable.STATE);
        LeafTable table = Check.laid("T0991G01000");
        check.due("undo() of a laid one", table.undo(), LeafTable.STATE);
        table.say(0);
        table.undo();
        check.due("undo() of an undone one", table.undo(), LeafTable.STATE);
        check.due("undo() once more", table.undo(), LeafTable.STATE);
        table.say(-1);
        check.due("undo() of a refused one", table.undo(), LeafTable.STATE);
        check.due("LENGTH", table.count(2), 9);
    }
}
