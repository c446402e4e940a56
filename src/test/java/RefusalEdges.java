import java.util.function.Supplier;
import java.util.function.ToLongFunction;

/** What the document says of all calls: 512 of them, refusals, fractions. */
final class RefusalEdges {
    private static final int LEAST = Integer.MIN_VALUE, GREATEST = Integer.MAX_VALUE;

    private final Check check;

    RefusalEdges(Check check) {
        this.check = check;
    }

    void tell(Sentences told) {
        told.holds(Document.USE, "An object is used for at most 512 calls after it has been made;", this::lastCall);
        told.holds(Document.USE, "what later calls answer is free.", this::laterCalls);
        told.holds(Document.FACE, "UNKNOWN = -1, OUTSIDE = -2, STATE = -3, FULL = -4, NONE = -9;", this::constants);
        told.holds(Document.TERMS, "REFUSALS, of several the first that a call names: UNKNOWN (there is no such GUEST, SLOT),"
            + " OUTSIDE (another number is not as told), STATE (as told), FULL.", this::firstOfSeveral);
        told.holds(Document.TERMS, "What is refused changes nothing.", this::refusedChangesNothing);
        told.holds(Document.TERMS, "NONE is -9.", this::none);
        told.holds(Document.TERMS, "FRACTIONS are told above (upper = true; below 0, if they are), below (1 and more),"
            + " in least terms;", this::fractions);
        told.holds(Document.TERMS, "refusals of them are told likewise.", this::refusedFractions);
    }

    private void lastCall() {
        LeafTable table = new LeafTable();
        String text = "T3095G02000";
        for (int i = 0; i < text.length(); i++) {
            table.write(text.charAt(i));
        }
        table.lay();
        int calls = text.length() + 1;
        for (; calls + 2 <= 510; calls += 2) {
            table.say(0);
            table.undo();
        }
        check.due("calls so far", calls, 510);
        check.due("call 511: say(0)", table.say(0), 31);
        check.due("call 512: pass(0)", table.pass(0), 7);
    }

    /** Free is what they answer, not whether they do. */
    private void laterCalls() {
        LeafTable table = Check.laid("T3095G02000G05100G07200");
        for (int i = 0; i < 3000; i++) {
            table.write('G');
            table.fault();
            table.say(i % 3);
            table.pass(i % 3);
            table.fetch();
            table.dine(i % 10, 0);
            table.laws(2);
            table.dinner(30);
            table.keep(i % 2);
            table.again(i % 2);
        }
        check.due("still there", table.count(1) >= 0 ? 1 : 0, 1);
    }

    private void constants() {
        check.due("UNKNOWN", LeafTable.UNKNOWN, -1);
        check.due("OUTSIDE", LeafTable.OUTSIDE, -2);
        check.due("STATE", LeafTable.STATE, -3);
        check.due("FULL", LeafTable.FULL, -4);
        check.due("NONE", LeafTable.NONE, -9);
    }

    private void none() {
        check.due("fault() of a table", Check.written("T0111").fault(), -9);
        check.due("longBy(2, false)", new LeafTable().longBy(2, false), -9);
        check.due("together(false)", Check.laid("T0911G05000").together(false), -9);
        check.due("judge(1, 6)", new LeafTable().judge(1, 6), -9);
        LeafTable table = new LeafTable();
        table.dine(0, 1);
        check.due("laws(1)", table.laws(1), -9);
        check.due("laws(2)", table.laws(2), -9);
    }

    private void firstOfSeveral() {
        LeafTable table = full();
        check.due("guest(5, 6): UNKNOWN ahead of OUTSIDE", table.guest(5, 6), LeafTable.UNKNOWN);
        check.due("guest(-1, -1): UNKNOWN ahead of OUTSIDE", table.guest(-1, -1), LeafTable.UNKNOWN);
        check.due("guest(4, 6): OUTSIDE alone", table.guest(4, 6), LeafTable.OUTSIDE);
        check.due("write(256): OUTSIDE ahead of FULL", table.write(256), LeafTable.OUTSIDE);
        check.due("write(-1): OUTSIDE ahead of FULL", table.write(-1), LeafTable.OUTSIDE);
        check.due("write(71): FULL alone", table.write(71), LeafTable.FULL);
        check.due("dine(10000, 0): OUTSIDE ahead of FULL", table.dine(10000, 0), LeafTable.OUTSIDE);
        check.due("dine(0, 41): OUTSIDE ahead of FULL", table.dine(0, 41), LeafTable.OUTSIDE);
        check.due("dine(0, 0): FULL alone", table.dine(0, 0), LeafTable.FULL);
        LeafTable empty = new LeafTable();
        check.due("again(2): UNKNOWN ahead of STATE", empty.again(2), LeafTable.UNKNOWN);
        check.due("again(-1): UNKNOWN ahead of STATE", empty.again(-1), LeafTable.UNKNOWN);
        check.due("again(1): STATE alone", empty.again(1), LeafTable.STATE);
        LeafTable longest = longest();
        check.due("say(2): UNKNOWN ahead of STATE", longest.say(2), LeafTable.UNKNOWN);
        check.due("say(1): STATE alone", longest.say(1), LeafTable.STATE);
    }

    /** 40 letters, 14 acts, both slots, six dinners; guest 0 (STAYING) can not speak. */
    private static LeafTable full() {
        LeafTable table = Check.laid("T0894G01102G02041G03213G05300G07030");
        for (int i = 0; i < 6; i++) {
            table.dine(1000 + i, 1);
        }
        table.seed(77);
        table.say(1);
        table.keep(0);
        table.pass(1);
        table.say(4);
        table.keep(1);
        for (int i = 0; i < 4; i++) {
            table.fetch();
            table.pass(i);
            table.say(3);
        }
        Check.write(table, "T1294G01102G02041G03213G05300G07030G0000");
        return table;
    }

    /** Nothing kept, no acts, one dinner, a text with one letter too few; guest 0 (STAYING) sits on the last leaf. */
    private static LeafTable bare() {
        LeafTable table = Check.laid("T0394G02102G01041");
        table.dine(1000, 1);
        table.seed(-5);
        Check.write(table, "T0394G0210");
        return table;
    }

    /** 60 leaves; guest 0 is BUSY, 1 FLATTERING. */
    private static LeafTable longest() {
        LeafTable table = Check.laid("T3011G00000G01200");
        for (int i = 0; i < 15; i++) {
            table.say(1);
        }
        Check.write(table, "T0511G03000");
        return table;
    }

    private void refused(String call, Supplier<LeafTable> like, ToLongFunction<LeafTable> made, int want) {
        Dump.unchanged(check, call, like, made, want);
    }

    private void refusedChangesNothing() {
        refusedOfTheTable();
        refusedActs();
        refusedNumbers();
        refusedSlots();
    }

    private void refusedOfTheTable() {
        refused("write(-1)", RefusalEdges::bare, t -> t.write(-1), LeafTable.OUTSIDE);
        refused("write(256)", RefusalEdges::bare, t -> t.write(256), LeafTable.OUTSIDE);
        refused("write(71) of 40", RefusalEdges::full, t -> t.write(71), LeafTable.FULL);
        refused("lay() of 40", RefusalEdges::full, t -> t.lay(), LeafTable.STATE);
        refused("lay() of too few", RefusalEdges::bare, t -> t.lay(), LeafTable.STATE);
        refused("guest(5, 0)", RefusalEdges::full, t -> t.guest(5, 0), LeafTable.UNKNOWN);
        refused("guest(0, 6)", RefusalEdges::full, t -> t.guest(0, 6), LeafTable.OUTSIDE);
    }

    private void refusedActs() {
        refused("say(5)", RefusalEdges::full, t -> t.say(5), LeafTable.UNKNOWN);
        refused("say(-1)", RefusalEdges::full, t -> t.say(-1), LeafTable.UNKNOWN);
        refused("say(0), one behind", RefusalEdges::full, t -> t.say(0), LeafTable.STATE);
        refused("say(0), no leaf behind", RefusalEdges::bare, t -> t.say(0), LeafTable.STATE);
        refused("say(0) at 60", RefusalEdges::longest, t -> t.say(0), LeafTable.STATE);
        refused("say(1) at 60", RefusalEdges::longest, t -> t.say(1), LeafTable.STATE);
        refused("pass(5)", RefusalEdges::full, t -> t.pass(5), LeafTable.UNKNOWN);
        refused("pass(-1)", RefusalEdges::full, t -> t.pass(-1), LeafTable.UNKNOWN);
        refused("pass(2) of two", RefusalEdges::bare, t -> t.pass(2), LeafTable.UNKNOWN);
        refused("undo() of none", RefusalEdges::bare, t -> t.undo(), LeafTable.STATE);
    }

    private void refusedNumbers() {
        refused("longBy(0)", RefusalEdges::full, t -> t.longBy(0, true), LeafTable.OUTSIDE);
        refused("longBy(61)", RefusalEdges::full, t -> t.longBy(61, false), LeafTable.OUTSIDE);
        refused("judge(7, 0)", RefusalEdges::full, t -> t.judge(7, 0), LeafTable.OUTSIDE);
        refused("judge(1, 10)", RefusalEdges::full, t -> t.judge(1, 10), LeafTable.OUTSIDE);
        refused("share(5)", RefusalEdges::full, t -> t.share(5, true), LeafTable.UNKNOWN);
        refused("comes(1, 4)", RefusalEdges::full, t -> t.comes(1, 4), LeafTable.OUTSIDE);
        refused("spoken(7, 0)", RefusalEdges::full, t -> t.spoken(7, 0), LeafTable.OUTSIDE);
        refused("dine(10000, 0)", RefusalEdges::bare, t -> t.dine(10000, 0), LeafTable.OUTSIDE);
        refused("dine(-1, 0)", RefusalEdges::bare, t -> t.dine(-1, 0), LeafTable.OUTSIDE);
        refused("dine(1, 41)", RefusalEdges::bare, t -> t.dine(1, 41), LeafTable.OUTSIDE);
        refused("dine(1, -41)", RefusalEdges::bare, t -> t.dine(1, -41), LeafTable.OUTSIDE);
        refused("dine(9, 9) of six", RefusalEdges::full, t -> t.dine(9, 9), LeafTable.FULL);
        refused("laws(3)", RefusalEdges::full, t -> t.laws(3), LeafTable.OUTSIDE);
        refused("hosts(5)", RefusalEdges::full, t -> t.hosts(5, true), LeafTable.OUTSIDE);
        refused("come(11, 1)", RefusalEdges::full, t -> t.come(11, 1, true), LeafTable.OUTSIDE);
        refused("come(1, 61)", RefusalEdges::full, t -> t.come(1, 61, true), LeafTable.OUTSIDE);
        refused("dinner(0)", RefusalEdges::full, t -> t.dinner(0), LeafTable.OUTSIDE);
        refused("dinner(31)", RefusalEdges::full, t -> t.dinner(31), LeafTable.OUTSIDE);
        refused("count(11)", RefusalEdges::full, t -> t.count(11), LeafTable.OUTSIDE);
    }

    private void refusedSlots() {
        int[] slots = {-1, 2, LEAST, GREATEST};
        for (int slot : slots) {
            refused("keep(" + slot + ")", RefusalEdges::full, t -> t.keep(slot), LeafTable.UNKNOWN);
            refused("again(" + slot + ")", RefusalEdges::full, t -> t.again(slot), LeafTable.UNKNOWN);
            refused("keep(" + slot + "), none kept", RefusalEdges::bare, t -> t.keep(slot), LeafTable.UNKNOWN);
        }
        refused("again(0), none kept", RefusalEdges::longest, t -> t.again(0), LeafTable.STATE);
        refused("again(1), none kept", RefusalEdges::longest, t -> t.again(1), LeafTable.STATE);
    }

    private void fractions() {
        LeafTable one = Check.laid("T0911G01010G02000");
        check.fraction("nothing: share(0)", one.share(0, true), one.share(0, false), 0, 1);
        check.fraction("whole: share(1)", one.share(1, true), one.share(1, false), 1, 1);
        check.fraction("nothing: come(0, 10)", one.come(0, 10, true), one.come(0, 10, false), 0, 1);
        check.fraction("whole: come(0, 9)", one.come(0, 9, true), one.come(0, 9, false), 1, 1);
        check.fraction("25 of 100: come(5, 11)", one.come(5, 11, true), one.come(5, 11, false), 1, 4);
        LeafTable five = Check.laid("T0911G00000G01000G02000G03000G04000");
        for (int x = 0; x <= 10; x++) {
            for (int n = 8; n <= 15; n++) {
                leastTerms("come(" + x + ", " + n + ")", five.come(x, n, true), five.come(x, n, false));
            }
        }
        LeafTable shared = Check.laid("T3059G01020G03020G02030G00040G04010");
        shared.pass(2);
        for (int guest = 0; guest < 5; guest++) {
            leastTerms("share(" + guest + ")", shared.share(guest, true), shared.share(guest, false));
        }
    }

    /** Who comes can be served beside the others, so that no share is below 0; nor is a chance. */
    private void leastTerms(String call, int above, int below) {
        check.due(call + " is 0 or more", above >= 0 ? 1 : 0, 1);
        check.due(call + " is below 1 or more", below >= 1 ? 1 : 0, 1);
        int divisors = 0;
        for (int i = 2; i <= below; i++) {
            divisors += above % i == 0 && below % i == 0 ? 1 : 0;
        }
        check.due(call + " is in least terms", divisors, 0);
    }

    private void refusedFractions() {
        LeafTable table = Check.laid("T0911G01010");
        int[] guests = {-1, 1, 5, LEAST, GREATEST};
        for (int guest : guests) {
            check.fraction("share(" + guest + ")", table.share(guest, true), table.share(guest, false),
                LeafTable.UNKNOWN, LeafTable.UNKNOWN);
        }
        int[][] numbers = {{-1, 9}, {11, 9}, {5, 0}, {5, 61}, {LEAST, 9}, {5, GREATEST}};
        for (int[] call : numbers) {
            check.fraction("come(" + call[0] + ", " + call[1] + ")", table.come(call[0], call[1], true),
                table.come(call[0], call[1], false), LeafTable.OUTSIDE, LeafTable.OUTSIDE);
        }
    }
}
