import java.util.function.ToLongFunction;

/** The edges of PASSES, LONG, TOGETHER, JUDGED, SHARE; promises 11 to 15. */
final class PlansEdges {
    private static final int LEAST = Integer.MIN_VALUE, GREATEST = Integer.MAX_VALUE, NONE = LeafTable.NONE;

    private final Check check;

    PlansEdges(Check check) {
        this.check = check;
    }

    void tell(Sentences told) {
        tellTerms(told);
        told.holds(11, "PASSES: MOST (row = false), the first row (row = true).", this::passesAsAsked);
        told.holds(12, "LONG: how many (row = false), the first row (row = true); NONE.", this::longAsAsked);
        told.holds(12, "OUTSIDE: n (1 to 60).", this::longOutside);
        told.holds(13, "TOGETHER: how many (row = false), the first row (row = true); NONE.", this::togetherAsAsked);
        told.holds(14, "JUDGED; NONE.", this::judgedAsAsked);
        told.holds(14, "OUTSIDE: n,", this::judgedTooMany);
        told.holds(14, "row (0 or more, n figures at most).", this::judgedTooLong);
        told.holds(15, "SHARE.", this::shareAsAsked);
        told.holds(15, "UNKNOWN.", this::shareOfNobody);
    }

    private void tellTerms(Sentences told) {
        told.holds(Document.TERMS, "In what follows nothing is changed.", this::nothingIsChanged);
        told.holds(Document.TERMS, "PASSES: rows of GUESTS, each once at most, to whom THE SOUP is PASSED one behind the other"
            + " from now on:", this::rowsOfPasses);
        told.holds(Document.TERMS, "MOST: how many are SERVED at last at most;", this::most);
        told.holds(Document.TERMS, "the first row of those (shorter ones first, then as a number of figures, 1 more each;"
            + " 0: none).", this::firstOfPasses);
        told.holds(Document.TERMS, "LONG for n: the fewest things SAID from now on (0 to 4, any GUEST, more than once, too)"
            + " behind which LENGTH is n;", this::fewestToBeLong);
        told.holds(Document.TERMS, "the first such row (as figures, 1 more each; 0: none); NONE.", this::firstToBeLong);
        told.holds(Document.TERMS, "TOGETHER: the fewest things SAID from now on (0 to 4) behind which all GUESTS HEAR"
            + " the head;", this::fewestToHear);
        told.holds(Document.TERMS, "the first such row; NONE.", this::firstToHear);
        told.holds(Document.TERMS, "JUDGED: n things (1 to 6) from now on,", this::sixThings);
        told.holds(Document.TERMS, "told as figures (0 to 4: that GUEST says its own;", this::sayingsJudged);
        told.holds(Document.TERMS, "5: PASSED to the one on the greatest LEAF;", this::passesJudged);
        told.holds(Document.TERMS, "6: FETCHED):", this::fetchesJudged);
        told.holds(Document.TERMS, "the place of the first that can not be,", this::canNotBe);
        told.holds(Document.TERMS, "or behind which THE SOUP is 0 warm;", this::coldBehind);
        told.holds(Document.TERMS, "0 warm; NONE: none.", this::noneIsWrong);
        told.holds(Document.TERMS, "SHARE of a GUEST: if GUESTS come one by one, in each order as likely,", this::eachOrder);
        told.holds(Document.TERMS, "on the LEAVES as they are now, THE SOUP as it is, nobody SERVED:", this::asItIsNow);
        told.holds(Document.TERMS, "by how much in the mean MOST is more when it has come than it was: a FRACTION.",
            this::meanOfMore);
    }

    private void most(LeafTable table, int count, int row) {
        check.due("passes(false)", table.passes(false), count);
        check.due("passes(true)", table.passes(true), row);
    }

    private void longBy(LeafTable table, int n, int count, int row) {
        check.due("longBy(" + n + ", false)", table.longBy(n, false), count);
        check.due("longBy(" + n + ", true)", table.longBy(n, true), row);
    }

    private void together(String text, int count, int row) {
        LeafTable table = Check.laid(text);
        check.due("together(false) of " + text, table.together(false), count);
        check.due("together(true) of " + text, table.together(true), row);
    }

    private void judged(LeafTable table, int n, int row, int want) {
        check.due("judge(" + n + ", " + row + ")", table.judge(n, row), want);
    }

    private void share(LeafTable table, int guest, int above, int below) {
        check.fraction("share(" + guest + ")", table.share(guest, true), table.share(guest, false), above, below);
    }

    // ---- nothing is changed

    private void asked(String call, ToLongFunction<LeafTable> made) {
        Dump.unchanged(check, call, Dump::someTable, made, made.applyAsLong(Dump.someTable()));
    }

    private void nothingIsChanged() {
        for (boolean flag : new boolean[] {false, true}) {
            asked("passes(" + flag + ")", t -> t.passes(flag));
            asked("longBy(18, " + flag + ")", t -> t.longBy(18, flag));
            asked("longBy(60, " + flag + ")", t -> t.longBy(60, flag));
            asked("together(" + flag + ")", t -> t.together(flag));
            asked("share(2, " + flag + ")", t -> t.share(2, flag));
            asked("hosts(4, " + flag + ")", t -> t.hosts(4, flag));
            asked("come(5, 16, " + flag + ")", t -> t.come(5, 16, flag));
        }
        asked("judge(6, 505050)", t -> t.judge(6, 505050));
        asked("judge(6, 665555)", t -> t.judge(6, 665555));
        asked("comes(6, 12321)", t -> t.comes(6, 12321));
        asked("spoken(6, 12321)", t -> t.spoken(6, 12321));
        for (int what = 0; what <= 2; what++) {
            int asked = what;
            asked("laws(" + what + ")", t -> t.laws(asked));
        }
    }

    // ---- passes

    private void rowsOfPasses() {
        most(new LeafTable(), 0, 0);
        most(Check.laid("T0991G04000"), 1, 1);
        most(Check.laid("T0991G00000G01000G02000G03000G04000"), 5, 12345);
        most(Check.laid("T0991G04050G03060G02070G01080G00090"), 5, 54321);
        // from now on: not from LEAF 0, not WARM warm
        LeafTable table = Check.laid("T0991G04050G02030");
        table.pass(0);
        most(table, 2, 2);
        table.pass(1);
        most(table, 2, 0);
        LeafTable cold = Check.laid("T0991G08000G07010");
        cold.pass(0);
        most(cold, 1, 0);
    }

    private void most() {
        // just warm enough, and one too cold
        most(Check.laid("T0991G04050"), 1, 1);
        most(Check.laid("T0991G04060"), 0, 0);
        // both on the way from the head, one on the way back
        most(Check.laid("T0991G04050G02070"), 2, 21);
        // as warm as each wants it, or one of them never
        most(Check.laid("T0931G01020G02010"), 2, 12);
        most(Check.laid("T0931G02010G01020G00030"), 3, 321);
        most(Check.laid("T0931G02010G01030"), 1, 1);
        // those SERVED before are SERVED at last, too
        LeafTable table = Check.laid("T0991G04050G00090");
        table.pass(0);
        most(table, 1, 0);
        table.fetch();
        most(table, 2, 2);
    }

    private void firstOfPasses() {
        // 12 serves as many as 2 alone
        most(Check.laid("T0951G00060G01040"), 1, 2);
        // rows as long: the least number
        most(Check.laid("T0991G01000G02000"), 2, 12);
        LeafTable either = Check.laid("T0991G05060G01060G03360");
        either.pass(2);
        most(either, 1, 0);
        LeafTable one = Check.laid("T0991G05040G01040G03300");
        one.pass(2);
        most(one, 2, 1);
        // none serves more than nothing passed
        most(Check.laid("T0911G01010G02020"), 0, 0);
        // the fifth is told as 5
        most(Check.laid("T0911G01090G02090G03090G04090G05000"), 1, 5);
    }

    private void passesAsAsked() {
        LeafTable table = Check.laid("T0991G04050G02070G08090");
        check.due("passes(false)", table.passes(false), 2);
        check.due("passes(true)", table.passes(true), 21);
        check.due("passes(false) of none", new LeafTable().passes(false), 0);
        check.due("passes(true) of none", new LeafTable().passes(true), 0);
    }

    // ---- sayings

    /** So many leaves; FLATTERING (0), BUSY (1), STAYING (2). */
    private static LeafTable longOf(int leaves) {
        return Check.lengthened("T3091G00200G01000G02100", leaves);
    }

    private void fewestToBeLong() {
        LeafTable busy = Check.laid("T0991G01000");
        longBy(busy, 9, 0, 0);
        longBy(busy, 10, 1, 1);
        longBy(busy, 13, 4, 1111);
        longBy(busy, 14, NONE, NONE);
        longBy(busy, 8, NONE, NONE);
        LeafTable staying = Check.laid("T0691G00100");
        longBy(staying, 2, 4, 1111);
        longBy(staying, 1, NONE, NONE);
        LeafTable fifth = Check.laid("T0991G00300G01300G02300G03300G04200");
        longBy(fifth, 11, 1, 5);
        longBy(fifth, 17, 4, 5555);
        longBy(fifth, 18, NONE, NONE);
        longBy(fifth, 10, NONE, NONE);
        busy.say(0);
        longBy(busy, 10, 0, 0);
        longBy(busy, 14, 4, 1111);
        // fewer ones that grow by two are ahead of a lesser row
        longBy(Check.laid("T0991G01000G02200"), 11, 1, 2);
    }

    private void firstToBeLong() {
        longBy(new LeafTable(), 1, 0, 0);
        longBy(new LeafTable(), 2, NONE, NONE);
        LeafTable two = Check.laid("T0991G01000G02200");
        longBy(two, 12, 2, 12);
        longBy(two, 14, 3, 122);
        LeafTable turned = Check.laid("T0991G01200G02000");
        longBy(turned, 12, 2, 12);
        longBy(turned, 14, 3, 112);
        // at 59 FLATTERING can speak only behind STAYING, so that 12 is no such row
        LeafTable bound = Check.laid("T2991G00200G01100");
        for (int i = 0; i < 15; i++) {
            bound.say(0);
        }
        longBy(bound, 60, 2, 21);
        // at 60 nobody may grow, so what takes back comes first
        LeafTable full = longOf(60);
        longBy(full, 60, 0, 0);
        longBy(full, 59, 1, 3);
        full.undo();
        longBy(full, 60, 1, 1);
        longBy(longOf(59), 60, 1, 2);
        longBy(longOf(59), 58, 1, 3);
    }

    private void longAsAsked() {
        LeafTable table = Check.laid("T0991G01000G03200");
        check.due("longBy(13, false)", table.longBy(13, false), 2);
        check.due("longBy(13, true)", table.longBy(13, true), 22);
        check.due("longBy(9, false)", table.longBy(9, false), 0);
        check.due("longBy(9, true)", table.longBy(9, true), 0);
        check.due("longBy(18, false)", table.longBy(18, false), NONE);
        check.due("longBy(18, true)", table.longBy(18, true), NONE);
    }

    private void longOutside() {
        LeafTable table = longOf(60);
        int[] wrong = {0, 61, -1, 62, LEAST, GREATEST};
        for (int n : wrong) {
            longBy(table, n, LeafTable.OUTSIDE, LeafTable.OUTSIDE);
        }
        longBy(table, 60, 0, 0);
        longBy(new LeafTable(), 1, 0, 0);
        longBy(new LeafTable(), 60, NONE, NONE);
        longBy(table, 1, NONE, NONE);
    }

    private void fewestToHear() {
        together("T0991", 0, 0);
        together("T0991G01000", 0, 0);
        together("T0991G01100G02000", 0, 0);
        together("T0991G01100G03000", 1, 1);
        together("T0991G01100G06000", 4, 1111);
        together("T0991G01100G07000", NONE, NONE);
        // who sits out of reach of LEAF 0 is drawn near by nobody ahead of it
        together("T0991G02100", NONE, NONE);
        LeafTable table = Check.laid("T0991G01100G07000");
        table.say(0);
        check.due("from now on", table.together(true), 1111);
    }

    private void firstToHear() {
        together("T0991", 0, 0);
        together("T3091G01100G03100G05000", 2, 12);
        together("T3091G03100G01100G05000", 2, 12);
        together("T3092G02100G05100G08000", 2, 12);
        together("T3091G01300G00100G03000", NONE, NONE);
        together("T3091G05000G01100G03300", NONE, NONE);
        together("T3091G00300G01300G02300G05000G03100", 1, 5);
    }

    private void togetherAsAsked() {
        LeafTable table = Check.laid("T0991G01100G04000");
        check.due("together(false)", table.together(false), 2);
        check.due("together(true)", table.together(true), 11);
        LeafTable none = Check.laid("T0991G05000");
        check.due("together(false), NONE", none.together(false), NONE);
        check.due("together(true), NONE", none.together(true), NONE);
    }

    // ---- judged

    private void sixThings() {
        LeafTable table = Check.laid("T0991G01100G04000");
        judged(table, 1, 1, NONE);
        judged(table, 6, 111111, NONE);
        judged(table, 6, 111112, 5);
        judged(table, 0, 0, LeafTable.OUTSIDE);
        judged(table, 7, 1111111, LeafTable.OUTSIDE);
        // from now on: two leaves are there for the first, then one, then none
        judged(table, 3, 0, 2);
        table.say(0);
        judged(table, 2, 0, 1);
        table.say(0);
        judged(table, 1, 0, 0);
    }

    private void sayingsJudged() {
        LeafTable five = Check.laid("T0991G00000G01000G02000G03000G04000");
        for (int guest = 0; guest <= 4; guest++) {
            judged(five, 1, guest, NONE);
        }
        LeafTable four = Check.laid("T0991G00000G01000G02000G03000");
        judged(four, 1, 3, NONE);
        judged(four, 1, 4, 0);
        judged(four, 6, 1234, 5);
        judged(new LeafTable(), 1, 0, 0);
        // what one says is done ahead of the next
        LeafTable table = Check.laid("T0391G01100G00000G02300");
        judged(table, 1, 0, 0);
        judged(table, 2, 10, 1);
        LeafTable grows = Check.laid("T0291G00000G01100");
        judged(grows, 2, 11, 0);
        LeafTable room = Check.laid("T0291G01000G00100");
        judged(room, 2, 1, 1);
    }

    private void passesJudged() {
        judged(Check.laid("T0991G00000"), 1, 5, NONE);
        judged(new LeafTable(), 1, 5, 0);
        // not the last one told, and not the one with the greatest number
        LeafTable turned = Check.laid("T0931G03300G01300");
        judged(turned, 1, 5, 0);
        judged(Check.laid("T0931G02300G01300"), 1, 5, NONE);
        judged(Check.laid("T0931G01300G03300"), 1, 5, 0);
        // where it sits when its turn has come
        LeafTable grown = Check.laid("T0931G00000G02300");
        judged(grown, 1, 5, NONE);
        judged(grown, 2, 5, 1);
        judged(grown, 2, 50, NONE);
    }

    private void fetchesJudged() {
        LeafTable table = Check.laid("T0931G02300");
        judged(table, 2, 55, NONE);
        judged(table, 4, 5656, NONE);
        judged(new LeafTable(), 1, 6, NONE);
        judged(new LeafTable(), 6, 666666, NONE);
        LeafTable cold = Check.laid("T0931G03300");
        cold.pass(0);
        judged(cold, 1, 0, 0);
        judged(cold, 1, 5, 0);
        judged(cold, 1, 6, NONE);
        judged(cold, 2, 60, NONE);
        // WARM warm again, on LEAF 0: the way is as long as it was
        judged(cold, 2, 65, 1);
    }

    private void canNotBe() {
        LeafTable table = Check.laid("T0591G02100G04000");
        judged(table, 1, 2, 0);
        judged(table, 2, 0, 1);
        judged(table, 6, 611100, 5);
        judged(table, 3, 617, 2);
        for (int figure = 7; figure <= 9; figure++) {
            judged(table, 1, figure, 0);
            judged(table, 6, 611110 + figure, 5);
            judged(new LeafTable(), 1, figure, 0);
        }
        LeafTable full = longOf(60);
        judged(full, 1, 0, 0);
        judged(full, 1, 1, 0);
        judged(full, 1, 2, NONE);
        judged(full, 3, 211, 2);
        judged(longOf(58), 2, 0, 1);
        judged(longOf(59), 1, 0, 0);
    }

    private void coldBehind() {
        judged(Check.laid("T0931G02300"), 1, 5, NONE);
        judged(Check.laid("T0931G03300"), 1, 5, 0);
        judged(Check.laid("T0931G04300"), 1, 5, 0);
        LeafTable cold = Check.laid("T0911G01300G05300");
        cold.pass(0);
        judged(cold, 1, 0, 0);
        judged(cold, 6, 600000, NONE);
        // SERVED or not makes no odds: the one that wants it 0 warm, too
        judged(Check.laid("T0931G03000"), 1, 5, 0);
    }

    private void noneIsWrong() {
        LeafTable table = Check.laid("T0991G01000G08000");
        judged(table, 1, 0, NONE);
        judged(table, 1, 5, NONE);
        judged(table, 2, 5, 1);
        judged(table, 2, 50, NONE);
        judged(table, 6, 656565, NONE);
        judged(table, 6, 0, NONE);
    }

    private void judgedAsAsked() {
        LeafTable table = Check.laid("T0991G01100G04000");
        judged(table, 6, 600000, 3);
        judged(table, 6, 660660, NONE);
        judged(table, 3, 0, 2);
        judged(table, 2, 0, NONE);
    }

    private void judgedTooMany() {
        LeafTable table = Check.laid("T0991G01000");
        int[] wrong = {0, 7, -1, 8, LEAST, GREATEST};
        for (int n : wrong) {
            judged(table, n, 0, LeafTable.OUTSIDE);
        }
        judged(table, 1, 0, NONE);
        judged(table, 6, 0, NONE);
    }

    private void judgedTooLong() {
        LeafTable table = Check.laid("T0991G01000");
        int limit = 1;
        for (int n = 1; n <= 6; n++) {
            limit *= 10;
            judged(table, n, -1, LeafTable.OUTSIDE);
            judged(table, n, 0, NONE);
            judged(table, n, limit - 1, 0);
            judged(table, n, limit, LeafTable.OUTSIDE);
            judged(table, n, LEAST, LeafTable.OUTSIDE);
            judged(table, n, GREATEST, LeafTable.OUTSIDE);
        }
    }

    // ---- shares

    private void eachOrder() {
        share(Check.laid("T0991G04000"), 0, 1, 1);
        share(Check.laid("T0991G08090"), 0, 0, 1);
        // 6 warm on LEAF 3: one of the first two can be served, each is the first in half of the orders
        LeafTable either = Check.laid("T0991G05040G01040G03340");
        either.pass(2);
        share(either, 0, 1, 2);
        share(either, 1, 1, 2);
        share(either, 2, 1, 1);
        // five on the way down, each served whoever has come
        LeafTable five = Check.laid("T0991G00090G01080G02070G03060G04050");
        for (int guest = 0; guest < 5; guest++) {
            share(five, guest, 1, 1);
        }
    }

    private void asItIsNow() {
        LeafTable table = Check.laid("T0951G02030G00050");
        share(table, 0, 1, 1);
        table.pass(0);
        // SERVED already, but that counts for nothing; THE SOUP is 3 warm on its LEAF
        share(table, 0, 1, 1);
        share(table, 1, 0, 1);
        table.fetch();
        table.say(1);
        // LEAF 3 now, 2 warm there
        share(table, 0, 0, 1);
        share(table, 1, 1, 1);
        LeafTable cold = Check.laid("T0911G08000G07010");
        cold.pass(0);
        share(cold, 0, 1, 1);
        share(cold, 1, 0, 1);
    }

    private void meanOfMore() {
        // 6 warm on LEAF 3: 0, 1, 3 alone are served; 3 and 0 both; 1 with neither of them; 2 never
        LeafTable four = Check.laid("T3099G01040G05040G03390G02050");
        four.pass(2);
        share(four, 0, 5, 6);
        share(four, 1, 1, 3);
        share(four, 2, 0, 1);
        share(four, 3, 5, 6);
        // 3 warm on LEAF 3: the two ahead of it, or the two behind it
        LeafTable two = Check.laid("T0961G02020G04020G03340G01010G05010");
        two.pass(2);
        int[] halves = {0, 1, 3, 4};
        for (int guest : halves) {
            share(two, guest, 1, 2);
        }
        share(two, 2, 0, 1);
        // the one ahead of it, or the two behind it
        LeafTable three = Check.laid("T0961G02020G04020G05010G03390");
        three.pass(3);
        share(three, 0, 1, 3);
        share(three, 1, 5, 6);
        share(three, 2, 5, 6);
        share(three, 3, 0, 1);
    }

    private void shareAsAsked() {
        LeafTable table = Check.laid("T0991G05040G01040G03340");
        table.pass(2);
        check.due("share(0, true)", table.share(0, true), 1);
        check.due("share(0, false)", table.share(0, false), 2);
    }

    private void shareOfNobody() {
        LeafTable two = Check.laid("T0991G01000G02000");
        int[] wrong = {-1, 2, 4, 5, LEAST, GREATEST};
        for (int guest : wrong) {
            share(two, guest, LeafTable.UNKNOWN, LeafTable.UNKNOWN);
        }
        share(new LeafTable(), 0, LeafTable.UNKNOWN, LeafTable.UNKNOWN);
        share(two, 1, 1, 1);
    }
}
