/** The edges of WORDS; promises 16 and 17. */
final class WordsEdges {
    private static final int LEAST = Integer.MIN_VALUE, GREATEST = Integer.MAX_VALUE;

    private final Check check;

    WordsEdges(Check check) {
        this.check = check;
    }

    void tell(Sentences told) {
        told.holds(Document.TERMS, "A WORD is n figures (1 to 6), 0 to 3 each.", this::wordsAndOthers);
        told.holds(Document.TERMS, "It goes from the head from one that HEARS to the next one that does;", this::whoHears);
        told.holds(Document.TERMS, "each one makes of each figure what is left by 4 of that and its EAR.", this::leftByFour);
        told.holds(Document.TERMS, "COMES: the WORD as the last one that HEARS tells it (as it was, if none does).",
            this::asLastOneTells);
        told.holds(Document.TERMS, "SPOKEN: what was said at the head, if the last one told a WORD.", this::saidAtTheHead);
        told.holds(16, "COMES, as figures.", this::comesAsFigures);
        told.holds(16, "OUTSIDE: n,", this::comesOfNoLength);
        told.holds(16, "word (n figures at most, 0 to 3 each).", this::comesOfNoWord);
        told.holds(17, "SPOKEN, as figures.", this::spokenAsFigures);
        told.holds(17, "OUTSIDE: n,", this::spokenOfNoLength);
        told.holds(17, "word.", this::spokenOfNoWord);
    }

    private void both(LeafTable table, int n, int said, int told) {
        check.due("comes(" + n + ", " + said + ")", table.comes(n, said), told);
        check.due("spoken(" + n + ", " + told + ")", table.spoken(n, told), said);
    }

    private void comes(LeafTable table, int n, int word, int want) {
        check.due("comes(" + n + ", " + word + ")", table.comes(n, word), want);
    }

    private void spoken(LeafTable table, int n, int word, int want) {
        check.due("spoken(" + n + ", " + word + ")", table.spoken(n, word), want);
    }

    private void wordsAndOthers() {
        LeafTable table = Check.laid("T0919G00000");
        for (int figure = 0; figure <= 9; figure++) {
            comes(table, 1, figure, figure <= 3 ? figure : LeafTable.OUTSIDE);
            spoken(table, 1, figure, figure <= 3 ? figure : LeafTable.OUTSIDE);
        }
        both(table, 6, 0, 0);
        both(table, 6, 333333, 333333);
        comes(table, 6, 333334, LeafTable.OUTSIDE);
        comes(table, 6, 433333, LeafTable.OUTSIDE);
        comes(table, 0, 0, LeafTable.OUTSIDE);
        comes(table, 7, 0, LeafTable.OUTSIDE);
    }

    private void whoHears() {
        // by LEAF, whatever their numbers; who does not hear changes nothing
        both(Check.laid("T3012G08003G02001G04001"), 2, 10, 32);
        both(Check.laid("T3012G06003G02001G04001"), 2, 10, 21);
        both(Check.laid("T3012G03001G04001"), 2, 10, 10);
        LeafTable table = Check.laid("T3012G02001G04001");
        both(table, 2, 10, 32);
        table.say(0);
        both(table, 2, 10, 21);
        table.undo();
        both(table, 2, 10, 32);
    }

    private void leftByFour() {
        for (int ear = 0; ear <= 3; ear++) {
            LeafTable table = Check.laid("T0919G0000" + ear);
            for (int figure = 0; figure <= 3; figure++) {
                both(table, 1, figure, (figure + ear) % 4);
                both(table, 3, figure * 101, (figure + ear) % 4 * 101 + ear * 10);
            }
        }
        both(Check.laid("T0919G00002G01002"), 4, 123, 123);
        both(Check.laid("T0919G00003G01003G02003G03003G04003"), 4, 123, 3012);
    }

    private void asLastOneTells() {
        both(new LeafTable(), 4, 123, 123);
        both(Check.laid("T0911G02003"), 4, 123, 123);
        both(Check.laid("T0911G01003"), 4, 123, 3012);
        both(Check.laid("T0911G01003G02003"), 4, 123, 2301);
        both(Check.laid("T0911G01003G03003"), 4, 123, 3012);
    }

    private void saidAtTheHead() {
        LeafTable table = Check.laid("T0919G00003G01002G02000");
        for (int a = 0; a <= 3; a++) {
            for (int b = 0; b <= 3; b++) {
                spoken(table, 2, (a + 1) % 4 * 10 + (b + 1) % 4, a * 10 + b);
            }
        }
        spoken(Check.laid("T0919G00003"), 6, 0, 111111);
        spoken(Check.laid("T0919G00001"), 6, 0, 333333);
        spoken(Check.laid("T0911G02001"), 6, 0, 0);
        spoken(new LeafTable(), 6, 123, 123);
    }

    /** Foremost figures that are 0 are figures, too. */
    private void comesAsFigures() {
        LeafTable table = Check.laid("T0919G00001");
        comes(table, 1, 0, 1);
        comes(table, 6, 0, 111111);
        comes(table, 3, 12, 123);
        comes(table, 4, 3012, 123);
        comes(table, 6, 333333, 0);
    }

    private void comesOfNoLength() {
        LeafTable table = Check.laid("T0919G00001");
        int[] wrong = {0, 7, -1, 8, LEAST, GREATEST};
        for (int n : wrong) {
            comes(table, n, 0, LeafTable.OUTSIDE);
        }
        comes(table, 1, 0, 1);
        comes(table, 6, 0, 111111);
    }

    private static int[] wrongWords(int n) {
        int limit = Integer.parseInt("1" + "0".repeat(n));
        return new int[] {-1, limit, limit / 10 * 4, limit - 1, 4, 5, 9, LEAST, GREATEST};
    }

    private void comesOfNoWord() {
        LeafTable table = Check.laid("T0919G00001");
        for (int n = 1; n <= 6; n++) {
            for (int word : wrongWords(n)) {
                comes(table, n, word, LeafTable.OUTSIDE);
            }
            comes(table, n, Integer.parseInt("3".repeat(n)), 0);
        }
        comes(table, 3, 141, LeafTable.OUTSIDE);
    }

    private void spokenAsFigures() {
        LeafTable table = Check.laid("T0919G00001");
        spoken(table, 1, 0, 3);
        spoken(table, 6, 0, 333333);
        spoken(table, 3, 12, 301);
        spoken(table, 4, 1230, 123);
        spoken(table, 6, 111111, 0);
    }

    private void spokenOfNoLength() {
        LeafTable table = Check.laid("T0919G00001");
        int[] wrong = {0, 7, -1, 8, LEAST, GREATEST};
        for (int n : wrong) {
            spoken(table, n, 0, LeafTable.OUTSIDE);
        }
        spoken(table, 1, 1, 0);
        spoken(table, 6, 111111, 0);
    }

    private void spokenOfNoWord() {
        LeafTable table = Check.laid("T0919G00001");
        for (int n = 1; n <= 6; n++) {
            for (int word : wrongWords(n)) {
                spoken(table, n, word, LeafTable.OUTSIDE);
            }
            spoken(table, n, Integer.parseInt("3".repeat(n)), Integer.parseInt("2".repeat(n)));
        }
        spoken(table, 3, 141, LeafTable.OUTSIDE);
    }
}
