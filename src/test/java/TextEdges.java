/** The edges of THE TEXT, of what is a TABLE, of FAULT; promises 1 to 6. */
final class TextEdges {
    private static final String FIVE = "T3011G29390G00001G05102G10213G28303";

    private final Check check;

    TextEdges(Check check) {
        this.check = check;
    }

    void tell(Sentences told) {
        tellTerms(told);
        told.holds(1, "One leaf, no guests.", this::newObject);
        told.holds(2, "A letter (0 to 255) comes behind THE TEXT: how long it is.", this::anyLetter);
        told.holds(2, "OUTSIDE;", this::noLetter);
        told.holds(2, "FULL: there are 40.", this::noRoom);
        told.holds(3, "THE TEXT is empty: how long it was.", this::wiped);
        told.holds(4, "FAULT; NONE.", this::faultAsItStands);
        told.holds(5, "THE TEXT is THE TABLE", this::laid);
        told.holds(5, "(THE ROW of ACTS is empty,", this::laidWithoutActs);
        told.holds(5, "what was kept is gone;", this::laidWithoutSlots);
        told.holds(5, "DINNERS, THE SEED stay):", this::dinnersAndSeedStay);
        told.holds(5, "how many GUESTS.", this::howManyLaid);
        told.holds(5, "STATE: a FAULT.", this::notLaid);
        told.holds(6, "Of a GUEST its LEAF (what = 0), KIND (1), how warm it wants it (2), EAR (3),", this::partsOfGuests);
        told.holds(6, "1 if it is SERVED (4),", this::servedOrNot);
        told.holds(6, "1 if it HEARS the head (5).", this::hearsOrNot);
        told.holds(6, "UNKNOWN;", this::noSuchGuest);
        told.holds(6, "OUTSIDE.", this::noSuchPart);
    }

    private void tellTerms(Sentences told) {
        told.holds(Document.TERMS, "THE TEXT is letters (40 at most).", this::fortyLetters);
        told.holds(Document.TERMS, "A TABLE is a TEXT: T,", this::letterT);
        told.holds(Document.TERMS, "LENGTH (two figures, 01 to 30: LEAVES, 0 and on),", this::length);
        told.holds(Document.TERMS, "WARM (1 to 9),", this::warm);
        told.holds(Document.TERMS, "REACH (1 to 9);", this::reach);
        told.holds(Document.TERMS, "then GUESTS, none or more, numbered as they are told (5 at most):", this::fiveGuests);
        told.holds(Document.TERMS, "Gsskwe a GUEST on LEAF ss (two figures;", this::leafOfTwoFigures);
        told.holds(Document.TERMS, "less than LENGTH,", this::leafLessThanLength);
        told.holds(Document.TERMS, "where none sits),", this::leafWhereNoneSits);
        told.holds(Document.TERMS, "of KIND k: 0 BUSY, 1 STAYING, 2 FLATTERING, 3 SILENT,", this::kind);
        told.holds(Document.TERMS, "that wants its soup w (0 to 9) warm,", this::wish);
        told.holds(Document.TERMS, "of EAR e (0 to 3)", this::ear);
        told.holds(Document.TERMS, "FAULT: the place of the first letter by which THE TEXT can be no TABLE,", this::firstLetter);
        told.holds(Document.TERMS, "whatever came behind it (its length set aside);", this::whateverCameBehind);
        told.holds(Document.TERMS, "its length, if it is only not at its end;", this::notAtItsEnd);
        told.holds(Document.TERMS, "NONE: none.", this::noFault);
        told.holds(Document.TERMS, "At first LENGTH, WARM, REACH are 1, there are no GUESTS.", this::atFirst);
        told.holds(Document.TERMS, "THE SOUP is on LEAF 0, WARM warm, nobody is SERVED, when THE TABLE is made anew.",
            this::soupAnew);
    }

    private static String pair(int number) {
        return (number < 10 ? "0" : "") + number;
    }

    /** Each letter at the end of a text: the fault is behind it if it is in the row, else it is the letter's place. */
    private void lastLetter(String ahead, String right, boolean isWhole) {
        for (int letter = 0; letter <= 255; letter++) {
            boolean isRight = right.indexOf(letter) >= 0;
            int behind = isWhole ? LeafTable.NONE : ahead.length() + 1;
            LeafTable table = Check.written(ahead);
            table.write(letter);
            check.due("fault() of \"" + ahead + "\" and letter " + letter, table.fault(), isRight ? behind : ahead.length());
        }
    }

    // ---- terms

    private void fortyLetters() {
        LeafTable table = new LeafTable();
        for (int i = 1; i <= 40; i++) {
            check.due("letter " + i, table.write('0'), i);
        }
        check.due("letter 41", table.write('0'), LeafTable.FULL);
        check.due("letter 42", table.write('0'), LeafTable.FULL);
        check.due("count(0)", table.count(0), 40);
    }

    private void letterT() {
        lastLetter("", "T", false);
    }

    private void length() {
        lastLetter("T", "0123", false);
        lastLetter("T0", "123456789", false);
        lastLetter("T1", "0123456789", false);
        lastLetter("T2", "0123456789", false);
        lastLetter("T3", "0", false);
        check.due("lay() of 01", Check.laid("T0111").count(2), 1);
        check.due("lay() of 09", Check.laid("T0911").count(2), 9);
        check.due("lay() of 10", Check.laid("T1011").count(2), 10);
        check.due("lay() of 30", Check.laid("T3011").count(2), 30);
        check.due("LEAF 0", Check.laid("T0111G00000").guest(0, 0), 0);
        check.due("LEAF 29", Check.laid("T3011G29000").guest(0, 0), 29);
    }

    private void warm() {
        lastLetter("T30", "123456789", false);
        check.due("WARM 1", Check.laid("T3015").count(10), 1);
        check.due("WARM 9", Check.laid("T3095").count(10), 9);
    }

    private void reach() {
        lastLetter("T305", "123456789", true);
        check.due("REACH 1", Check.laid("T3051").count(3), 1);
        check.due("REACH 9", Check.laid("T3059").count(3), 9);
    }

    private void fiveGuests() {
        check.fault("T3011", LeafTable.NONE);
        check.due("none: lay()", Check.written("T3011").lay(), 0);
        check.due("five: fault()", Check.written(FIVE).fault(), LeafTable.NONE);
        LeafTable five = Check.written(FIVE);
        check.due("five: lay()", five.lay(), 5);
        check.leaves("as they are told", five, 29, 0, 5, 10, 28);
        check.fault(FIVE + "G", 35);
        check.fault(FIVE + "G0100", 35);
        lastLetter("T3011", "G", false);
    }

    private void leafOfTwoFigures() {
        lastLetter("T3011G", "012", false);
        lastLetter("T3011G0", "0123456789", false);
        lastLetter("T3011G2", "0123456789", false);
        check.due("LEAF 07", Check.laid("T3011G07000").guest(0, 0), 7);
        check.due("LEAF 20", Check.laid("T3011G20000").guest(0, 0), 20);
    }

    private void leafLessThanLength() {
        for (int length = 1; length <= 30; length++) {
            for (int leaf = 0; leaf <= 99; leaf++) {
                int want = leaf < length ? 8 : leaf / 10 * 10 < length ? 7 : 6;
                check.fault("T" + pair(length) + "11G" + pair(leaf), want);
            }
        }
    }

    private void leafWhereNoneSits() {
        for (int leaf = 0; leaf < 30; leaf++) {
            check.fault("T3011G17000G" + pair(leaf), leaf == 17 ? 13 : 14);
        }
        check.fault("T0911G00000G05000G08000G05", 25);
        check.fault("T0911G00000G05000G08000G00", 25);
        check.fault("T0911G00000G05000G08000G08", 25);
        check.fault("T0911G00000G05000G08000G07", 26);
    }

    private void kind() {
        lastLetter("T3011G00", "0123", false);
        int[] grown = {6, 4, 7, 5};
        for (int kind = 0; kind <= 3; kind++) {
            LeafTable table = Check.laid("T0511G01" + kind + "00");
            check.due("KIND", table.guest(0, 1), kind);
            check.due("KIND " + kind + " says", table.say(0), grown[kind]);
        }
    }

    private void wish() {
        lastLetter("T3011G000", "0123456789", false);
        check.due("0 warm", Check.laid("T3011G00000").guest(0, 2), 0);
        check.due("9 warm", Check.laid("T3011G00090").guest(0, 2), 9);
    }

    private void ear() {
        lastLetter("T3011G0000", "0123", true);
        check.due("EAR 0", Check.laid("T3011G00000").guest(0, 3), 0);
        check.due("EAR 3", Check.laid("T3011G00003").guest(0, 3), 3);
    }

    /** Each letter of a table in turn is made wrong, and all behind it as well. */
    private void firstLetter() {
        for (int place = 0; place < FIVE.length(); place++) {
            String ahead = FIVE.substring(0, place);
            check.fault(ahead + "x" + FIVE.substring(place + 1), place);
            check.fault(ahead + "x".repeat(FIVE.length() - place), place);
        }
        check.fault("T4011", 1);
        check.fault("T3111", 2);
        check.fault("T0011", 2);
    }

    /** A letter is wrong as soon as no letters behind it could make a table, be they as many as they like. */
    private void whateverCameBehind() {
        check.fault("T1011G1", 6);
        check.fault("T1111G1", 7);
        check.fault("T1111G10000G1", 12);
        check.fault("T1211G10000G1", 13);
        check.fault("T0111G00000G", 11);
        check.fault("T0211G00000G", 12);
        check.fault("T0411G00000G01000G02000G03000G", 29);
        check.fault("T0511G00000G01000G02000G03000G", 30);
        check.fault("T1211G10000G11000G1", 18);
        check.fault(FIVE + "G", 35);
        check.fault(FIVE + "xxxxx", 35);
        check.fault(FIVE + "G0100", 35);
    }

    private void notAtItsEnd() {
        for (int length = 0; length < FIVE.length(); length++) {
            boolean isTable = length >= 5 && (length - 5) % 6 == 0;
            check.fault(FIVE.substring(0, length), isTable ? LeafTable.NONE : length);
        }
    }

    private void noFault() {
        String[] tables = {"T0111", "T3099", "T0111G00000", "T3011G29393", "T0511G04000G03000G02000G01000G00000", FIVE};
        for (String table : tables) {
            check.fault(table, LeafTable.NONE);
        }
    }

    private void atFirst() {
        LeafTable table = new LeafTable();
        check.due("LENGTH", table.count(2), 1);
        check.due("WARM", table.count(10), 1);
        check.due("REACH", table.count(3), 1);
        check.due("GUESTS", table.count(1), 0);
    }

    private void soupAnew() {
        check.counts("a new object", new LeafTable(), 1, 0, 1, 0);
        LeafTable table = Check.laid("T3091G05000G06000");
        check.counts("laid", table, 30, 0, 9, 0);
        table.pass(0);
        table.pass(1);
        check.counts("passed", table, 30, 6, 3, 3);
        table.lay();
        check.counts("laid again", table, 30, 0, 9, 0);
        table.pass(1);
        Check.write(table, "T0542");
        table.lay();
        check.counts("another laid", table, 5, 0, 4, 0);
    }

    // ---- promises

    private void newObject() {
        LeafTable table = new LeafTable();
        check.due("LENGTH", table.count(2), 1);
        check.due("GUESTS", table.count(1), 0);
        check.due("guest(0, 0)", table.guest(0, 0), LeafTable.UNKNOWN);
        check.due("letters", table.count(0), 0);
        check.due("who is SERVED", table.count(6), 0);
        check.due("who HEARS", table.count(7), 0);
        check.due("ACTS", table.count(8), 0);
    }

    private void anyLetter() {
        LeafTable table = new LeafTable();
        check.due("write(0)", table.write(0), 1);
        check.due("write(255)", table.write(255), 2);
        for (int letter = 0; letter <= 255; letter++) {
            check.due("write(" + letter + ")", new LeafTable().write(letter), 1);
        }
        LeafTable behind = Check.written("T3");
        check.due("behind the others", behind.write('1'), 3);
        check.due("its place", behind.fault(), 2);
    }

    private void noLetter() {
        int[] wrong = {-1, 256, -255, 257, 256 + 'T', Integer.MIN_VALUE, Integer.MAX_VALUE};
        LeafTable table = new LeafTable();
        for (int letter : wrong) {
            check.due("write(" + letter + ")", table.write(letter), LeafTable.OUTSIDE);
        }
        check.due("letters", table.count(0), 0);
    }

    private void noRoom() {
        LeafTable table = Check.written("0".repeat(39));
        check.due("the 40th", table.write('0'), 40);
        check.due("the 41st", table.write('0'), LeafTable.FULL);
        table.wipe();
        check.due("room again", table.write('0'), 1);
    }

    private void wiped() {
        LeafTable table = new LeafTable();
        check.due("wipe() of nothing", table.wipe(), 0);
        table.write('T');
        check.due("wipe() of one", table.wipe(), 1);
        check.due("letters", table.count(0), 0);
        check.due("fault()", table.fault(), 0);
        for (int i = 0; i < 41; i++) {
            table.write('T');
        }
        check.due("wipe() of 40", table.wipe(), 40);
        check.due("wipe() once more", table.wipe(), 0);
        LeafTable laid = Check.laid("T0911G03000");
        laid.wipe();
        check.due("the table stays", laid.count(2) * 10 + laid.count(1), 91);
    }

    private void faultAsItStands() {
        LeafTable table = new LeafTable();
        String text = "T0911G";
        int[] want = {0, 1, 2, 3, 4, LeafTable.NONE, 6};
        check.due("fault() of nothing", table.fault(), want[0]);
        for (int i = 0; i < text.length(); i++) {
            table.write(text.charAt(i));
            check.due("fault() of " + (i + 1), table.fault(), want[i + 1]);
        }
        table.write('x');
        table.write('0');
        check.due("fault() of a wrong one", table.fault(), 6);
        check.due("nothing is laid", table.count(2), 1);
    }

    private void laid() {
        LeafTable table = Check.laid("T0911G03000G08103");
        Check.write(table, "T3045");
        table.lay();
        check.due("LENGTH", table.count(2), 30);
        check.due("WARM", table.count(10), 4);
        check.due("REACH", table.count(3), 5);
        check.due("GUESTS are gone", table.count(1), 0);
        check.due("guest(0, 0)", table.guest(0, 0), LeafTable.UNKNOWN);
        check.due("THE TEXT stays", table.count(0), 5);
        table.write('G');
        check.due("letters behind it lay nothing", table.count(1), 0);
    }

    private void laidWithoutActs() {
        LeafTable table = Check.laid("T0911G03000");
        table.say(0);
        table.pass(0);
        table.fetch();
        table.lay();
        check.due("ACTS", table.count(8), 0);
        check.due("undo()", table.undo(), LeafTable.STATE);
        check.due("LENGTH", table.count(2), 9);
    }

    private void laidWithoutSlots() {
        LeafTable table = Check.laid("T0911G03000");
        table.keep(0);
        table.keep(1);
        table.lay();
        check.due("again(0)", table.again(0), LeafTable.STATE);
        check.due("again(1)", table.again(1), LeafTable.STATE);
        table.keep(1);
        check.due("again(0), 1 kept anew", table.again(0), LeafTable.STATE);
        check.due("again(1), kept anew", table.again(1), 9);
    }

    private void dinnersAndSeedStay() {
        LeafTable table = new LeafTable();
        table.dine(1000, 2);
        table.dine(100, 0);
        table.seed(Long.MIN_VALUE);
        Check.write(table, "T0911G03000");
        table.lay();
        check.due("DINNERS", table.count(9), 2);
        check.due("laws(0)", table.laws(0), 16);
        check.due("laws(1)", table.laws(1), 3100);
        check.due("THE SEED", table.seed(0), Long.MIN_VALUE);
    }

    private void howManyLaid() {
        for (int guests = 0; guests <= 5; guests++) {
            LeafTable table = Check.written(FIVE.substring(0, 5 + 6 * guests));
            check.due("lay() of " + guests, table.lay(), guests);
            check.due("count(1)", table.count(1), guests);
            check.due("the last one", table.guest(guests - 1, 0) >= 0 ? 1 : 0, guests == 0 ? 0 : 1);
            check.due("none behind it", table.guest(guests, 0), LeafTable.UNKNOWN);
        }
    }

    private void notLaid() {
        String[] faulty = {"", "T", "T091", "T0011", "T3111", "T0911G", "T0911G0300", "T0911G030000", "T0911G09000",
            "T0911G03000G03000", FIVE + "G", FIVE + "G0100"};
        for (String text : faulty) {
            LeafTable table = Check.laid("T0744G06213");
            Check.write(table, text);
            check.due("lay() of \"" + text + "\"", table.lay(), LeafTable.STATE);
            check.due("LENGTH stays", table.count(2), 7);
            check.due("GUESTS stay", table.count(1), 1);
            check.leaves("stays", table, 6);
        }
        check.due("lay() of a new one", new LeafTable().lay(), LeafTable.STATE);
    }

    private void partsOfGuests() {
        LeafTable table = Check.laid(FIVE);
        int[][] want = {{29, 3, 9, 0}, {0, 0, 0, 1}, {5, 1, 0, 2}, {10, 2, 1, 3}, {28, 3, 0, 3}};
        for (int guest = 0; guest < 5; guest++) {
            for (int what = 0; what <= 3; what++) {
                check.due("guest(" + guest + ", " + what + ")", table.guest(guest, what), want[guest][what]);
            }
        }
        table.say(1);
        check.leaves("its LEAF as it is now", table, 30, 0, 6, 11, 29);
    }

    private void servedOrNot() {
        LeafTable table = Check.laid("T0951G03030G02030G04000");
        check.due("not yet", table.guest(1, 4), 0);
        table.pass(1);
        check.due("just warm enough", table.guest(1, 4), 1);
        table.pass(0);
        check.due("one too cold", table.guest(0, 4), 0);
        check.due("the first still is", table.guest(1, 4), 1);
        table.pass(2);
        check.due("1 for the third, too", table.guest(2, 4), 1);
    }

    private void hearsOrNot() {
        LeafTable table = Check.laid("T3013G06000G03000G10000");
        check.due("at REACH", table.guest(1, 5), 1);
        check.due("NEAR one that HEARS", table.guest(0, 5), 1);
        check.due("one LEAF too far", table.guest(2, 5), 0);
    }

    private void noSuchGuest() {
        LeafTable two = Check.laid("T0911G03000G04000");
        LeafTable five = Check.laid(FIVE);
        for (int what = 0; what <= 5; what++) {
            check.due("guest(0, " + what + ") of none", new LeafTable().guest(0, what), LeafTable.UNKNOWN);
            check.due("guest(2, " + what + ") of two", two.guest(2, what), LeafTable.UNKNOWN);
            check.due("guest(4, " + what + ") of two", two.guest(4, what), LeafTable.UNKNOWN);
            check.due("guest(5, " + what + ") of five", five.guest(5, what), LeafTable.UNKNOWN);
            check.due("guest(-1, " + what + ") of five", five.guest(-1, what), LeafTable.UNKNOWN);
        }
        check.due("guest(MIN, 0)", five.guest(Integer.MIN_VALUE, 0), LeafTable.UNKNOWN);
        check.due("guest(MAX, 0)", five.guest(Integer.MAX_VALUE, 0), LeafTable.UNKNOWN);
    }

    private void noSuchPart() {
        LeafTable table = Check.laid("T0911G03000");
        int[] wrong = {-1, 6, 7, Integer.MIN_VALUE, Integer.MAX_VALUE};
        for (int what : wrong) {
            check.due("guest(0, " + what + ")", table.guest(0, what), LeafTable.OUTSIDE);
        }
    }
}
