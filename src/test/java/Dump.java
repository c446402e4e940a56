import java.util.ArrayList;
import java.util.List;
import java.util.function.Supplier;
import java.util.function.ToLongFunction;

/** All that calls can tell of an object, row of acts, slots and text as well; the object is used up by it. */
final class Dump {
    static final long SOME_SEED = 12345;

    private final LeafTable table;
    private final List<Long> answers = new ArrayList<>();

    private Dump(LeafTable table) {
        this.table = table;
    }

    /** Of everything something: acts, both slots, dinners, a seed, and another text than the one that was laid. */
    static LeafTable someTable() {
        LeafTable table = Check.laid("T1292G02021G03102G05033G08210G11123");
        table.dine(1010, 3);
        table.dine(100, -1);
        table.seed(SOME_SEED);
        table.keep(1);
        table.pass(0);
        table.say(0);
        table.keep(0);
        table.say(3);
        Check.write(table, "T1193G02000");
        return table;
    }

    static List<Long> of(LeafTable table) {
        Dump dump = new Dump(table);
        dump.lookAtAll();
        dump.undoAll();
        for (int slot = 0; slot < 2; slot++) {
            dump.add(table.again(slot));
            dump.lookAtSeats();
        }
        dump.add(table.lay());
        dump.lookAtAll();
        return dump.answers;
    }

    /** A call on one of two like objects answers as due, and both are alike behind it. */
    static void unchanged(Check check, String call, Supplier<LeafTable> like, ToLongFunction<LeafTable> made, long want) {
        LeafTable called = like.get();
        check.due(call, made.applyAsLong(called), want);
        check.due(call + " changes nothing", Dump.of(called).equals(Dump.of(like.get())) ? 1 : 0, 1);
    }

    private void add(long answer) {
        answers.add(answer);
    }

    private void lookAtAll() {
        for (int what = 0; what <= 10; what++) {
            add(table.count(what));
        }
        for (int guest = 0; guest < table.count(1); guest++) {
            for (int what = 0; what <= 5; what++) {
                add(table.guest(guest, what));
            }
        }
        add(table.fault());
        for (int what = 0; what <= 2; what++) {
            add(table.laws(what));
        }
        long seed = table.seed(0);
        add(seed);
        table.seed(seed);
    }

    private void lookAtSeats() {
        add(table.count(2));
        add(table.count(4));
        add(table.count(5));
        add(table.count(6));
        for (int guest = 0; guest < table.count(1); guest++) {
            add(table.guest(guest, 0));
        }
    }

    private void undoAll() {
        for (int i = 0; i < 15; i++) {
            add(table.undo());
            lookAtSeats();
        }
    }
}
