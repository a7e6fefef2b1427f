import java.util.ArrayDeque;
import java.util.ArrayList;
import java.util.Deque;
import java.util.List;
import java.util.function.Consumer;
import java.util.function.Function;
import java.util.function.Supplier;

/** The boundaries that the document names for snapshots, undo and exceptions: a part of its own for each sentence. */
final class SavedBoundariesTest {
    private static final Class<IndexOutOfBoundsException> NO_SUCH = IndexOutOfBoundsException.class;
    private static final Class<IllegalArgumentException> WRONG = IllegalArgumentException.class;
    private static final Class<IllegalStateException> NOT_NOW = IllegalStateException.class;
    private static final int NONE = -1;

    private static final Due DUE = new Due();

    private SavedBoundariesTest() {
    }

    public static void main(String[] args) {
        DUE.part(SavedBoundariesTest::slots);
        DUE.part(SavedBoundariesTest::inPlaceOfTheOne);
        DUE.part(SavedBoundariesTest::noSnapshot);
        DUE.part(SavedBoundariesTest::keepReturns);
        DUE.part(SavedBoundariesTest::snapshotHolds);
        DUE.part(SavedBoundariesTest::snapshotOfOthers);
        DUE.part(SavedBoundariesTest::snapshotIsNot);
        DUE.part(SavedBoundariesTest::snapshotStays);
        DUE.part(SavedBoundariesTest::undoableSaves);
        DUE.part(SavedBoundariesTest::undoableCountsOn);
        DUE.part(SavedBoundariesTest::savedIsNot);
        DUE.part(SavedBoundariesTest::restoresAndDrops);
        DUE.part(SavedBoundariesTest::nothingToRestore);
        DUE.part(SavedBoundariesTest::sixSavedStates);
        DUE.part(SavedBoundariesTest::oldestIsDropped);
        DUE.part(SavedBoundariesTest::othersSaveNothing);
        DUE.part(SavedBoundariesTest::looksChangeNothing);
        DUE.part(SavedBoundariesTest::exceptionsChangeNothing);
        DUE.part(SavedBoundariesTest::exceptionsOfOthers);
        DUE.part(SavedBoundariesTest::firstNamed);
        DUE.part(SavedBoundariesTest::constants);
        DUE.end();
    }

    /**
     * All that can be told of an object, also what its saved states and its
     * slots hold, by their digests. The object is used up by this.
     */
    private static List<Long> told(ChronicleRows x, boolean... kept) {
        List<Long> told = new ArrayList<>();
        told.add(x.digest());
        told.add((long) x.firstError());
        for (int left = x.count(8); left > 0; left--) {
            x.undo();
            told.add(x.digest());
        }
        for (int slot = 0; slot < kept.length; slot++) {
            if (kept[slot]) {
                x.goBack(slot);
                told.add(x.digest());
            }
        }
        told.add((long) x.clearBuffer());
        return told;
    }

    /** Three people of the row 0, a couple, a child; two unlike snapshots; five saved states; a text that is no chronicle. */
    private static ChronicleRows rich() {
        ChronicleRows made = new ChronicleRows();
        Made.type(made, "0;0");
        made.run();
        made.keep(0);
        made.marry(0, 1);
        made.keep(1);
        made.child(0);
        made.person(0);
        made.marry(0, 1);
        Made.type(made, "0;3;x");
        return made;
    }

    private static void slots() {
        DUE.sentence("There are two slots");
        ChronicleRows x = Made.withPeople(0);
        DUE.same("keep(0)", x.keep(0), 1);
        x.person(1);
        DUE.same("keep(1)", x.keep(1), 2);
        x.person(2);
        DUE.same("goBack(0)", x.goBack(0), 1);
        DUE.same("goBack(1)", x.goBack(1), 2);
        DUE.same("goBack(0)", x.goBack(0), 1);
        for (int slot : new int[] {-1, 2, 3, Integer.MIN_VALUE, Integer.MAX_VALUE}) {
            DUE.thrown("keep(" + slot + ")", WRONG, () -> x.keep(slot));
            DUE.thrown("goBack(" + slot + ")", WRONG, () -> x.goBack(slot));
        }
        DUE.same("the slots stay", 10 * x.goBack(1) + x.goBack(0), 21);
    }

    private static void inPlaceOfTheOne() {
        DUE.sentence("Takes a snapshot, in place of the one in the slot");
        for (int slot = 0; slot <= 1; slot++) {
            ChronicleRows x = Made.withPeople(0, 0);
            x.keep(slot);
            x.keep(1 - slot);
            x.person(0);
            DUE.same("keep again", x.keep(slot), 3);
            x.person(0);
            DUE.same("goBack", x.goBack(slot), 3);
            DUE.same("goBack, the other slot", x.goBack(1 - slot), 2);
        }
    }

    private static void noSnapshot() {
        DUE.sentence("goBack throws IllegalStateException if there is no snapshot in it");
        for (int slot = 0; slot <= 1; slot++) {
            ChronicleRows x = Made.withPeople(0, 0);
            int one = slot;
            int other = 1 - slot;
            DUE.thrown("goBack of an empty slot", NOT_NOW, () -> x.goBack(one));
            x.keep(one);
            DUE.thrown("goBack of the other slot", NOT_NOW, () -> x.goBack(other));
            DUE.same("goBack", x.goBack(one), 2);
            x.undo();
            x.undo();
            DUE.same("a slot stays full behind undo", x.goBack(one), 2);
        }
        ChronicleRows empty = new ChronicleRows();
        empty.keep(0);
        empty.person(0);
        DUE.same("goBack to an empty chronicle", empty.goBack(0), 0);
    }

    private static void keepReturns() {
        DUE.sentence("keep, goBack: Returns how many people there are (then)");
        ChronicleRows x = new ChronicleRows();
        DUE.same("keep of none", x.keep(0), 0);
        ChronicleRows all = Made.full();
        DUE.same("keep of 20", all.keep(1), 20);
        for (int times = 0; times < 6; times++) {
            all.undo();
        }
        all.keep(0);
        DUE.same("goBack to 20", all.goBack(1), 20);
        DUE.same("couples of 20", all.count(1), 10);
        DUE.same("goBack to 20 with four couples", all.goBack(0), 20);
        DUE.same("four couples", all.count(1), 4);
    }

    private static void snapshotHolds() {
        DUE.sentence("a snapshot is all but the buffer, the slots and the saved states");
        ChronicleRows x = Made.family();
        x.marry(0, 1);
        x.swap(1, 1);
        x.keep(0);
        List<Long> before = looks(x);
        x.swap(1, 0);
        x.swap(0, 1);
        x.marry(3, 4);
        x.child(3);
        x.person(3);
        x.marry(0, 2);
        x.marry(0, 2);
        x.marry(0, 2);
        x.goBack(0);
        DUE.same("all looks behind goBack", looks(x), before);
        DUE.same("what was refused then", x.count(7), 1);
        DUE.same("the next person", x.person(3), 10);
    }

    /** The numbers of people and couples tell others here than there. */
    private static void snapshotOfOthers() {
        DUE.sentence("a snapshot is all: who came behind it has the same numbers");
        ChronicleRows x = Made.withPeople(0, 0, 0, 1, 1);
        x.keep(0);
        x.marry(0, 1);
        x.child(0);
        x.person(1);
        x.person(2);
        x.keep(1);
        List<Long> ofOne = looks(x);
        x.goBack(0);
        x.marry(4, 3);
        x.person(3);
        x.child(0);
        x.person(2);
        x.swap(2, 0);
        DUE.same("another row of 5", x.personOf(5, 0), 3);
        x.goBack(1);
        DUE.same("all looks behind goBack", looks(x), ofOne);
        x.undo();
        DUE.same("undo: the row of 5", x.personOf(5, 0), 3);
        DUE.same("undo: the row of 6", x.personOf(6, 0), 2);
        DUE.same("undo: the parents of 5", x.personOf(5, 2), NONE);
        DUE.same("undo: the parents of 6", x.personOf(6, 2), 0);
        DUE.same("undo: the lesser one of the couple", x.coupleOf(0, 0), 3);
        DUE.same("undo: the greater one of the couple", x.coupleOf(0, 1), 4);
    }

    /** All looks but those at the buffer, the slots and the saved states. */
    private static List<Long> looks(ChronicleRows x) {
        List<Long> told = new ArrayList<>();
        for (int what = 0; what <= 7; what++) {
            told.add((long) x.count(what));
        }
        for (int person = 0; person < x.count(0); person++) {
            for (int what = 0; what <= 6; what++) {
                told.add((long) x.personOf(person, what));
            }
        }
        for (int couple = 0; couple < x.count(1); couple++) {
            for (int what = 0; what <= 5; what++) {
                told.add((long) x.coupleOf(couple, what));
            }
        }
        for (int row = 0; row <= 3; row++) {
            for (int place = 0; place <= 5; place++) {
                told.add((long) x.at(row, place));
            }
        }
        return told;
    }

    private static void snapshotIsNot() {
        DUE.sentence("a snapshot is not the buffer, the slots and the saved states");
        ChronicleRows x = Made.withPeople(0, 0);
        Made.type(x, "0;1");
        x.keep(0);
        x.clearBuffer();
        Made.type(x, "+0&1;2;x");
        x.person(1);
        x.keep(1);
        DUE.same("goBack(0)", x.goBack(0), 2);
        DUE.same("the buffer stays", x.firstError(), 7);
        DUE.same("the saved states stay, and one more", x.count(8), 4);
        DUE.same("the other slot stays", x.goBack(1), 3);
        DUE.same("undo", x.undo(), 4);
        DUE.same("undo", x.undo(), 3);
        DUE.same("people, before goBack(0)", x.count(0), 3);
        DUE.same("undo", x.undo(), 2);
        DUE.same("people, before the third", x.count(0), 2);
        DUE.same("the length", x.clearBuffer(), 8);
    }

    private static void snapshotStays() {
        DUE.sentence("Goes back to a snapshot, which stays");
        for (int slot = 0; slot <= 1; slot++) {
            ChronicleRows x = Made.withPeople(0, 0, 0, 0);
            x.keep(slot);
            for (int times = 0; times < 8; times++) {
                x.marry(times % 4, (times + 1) % 4);
                x.swap(0, times % 3);
                x.person(1);
                DUE.same("goBack", x.goBack(slot), 4);
                DUE.same("couples", x.count(1), 0);
                for (int place = 0; place < 4; place++) {
                    DUE.same("the order", x.at(0, place), place);
                }
                DUE.same("undo", x.undo(), 5);
                DUE.same("people, before goBack", x.count(0), 5);
                x.goBack(slot);
            }
        }
    }

    /** The same chronicle, in slot 0 too, but with one saved state only. */
    private static ChronicleRows drained(ChronicleRows x) {
        x.keep(0);
        for (int left = x.count(8); left > 0; left--) {
            x.undo();
        }
        x.goBack(0);
        return x;
    }

    private static ChronicleRows full() {
        return drained(Made.full());
    }

    private static ChronicleRows tangled() {
        return drained(Made.tangled());
    }

    private static ChronicleRows withText(ChronicleRows x, String text) {
        x.clearBuffer();
        Made.type(x, text);
        return x;
    }

    /** A couple of the row 0, and six people of the row 1. */
    private static ChronicleRows withFullRow() {
        ChronicleRows made = Made.withPeople(0, 0, 1, 1, 1, 1, 1, 1);
        made.marry(0, 1);
        return drained(made);
    }

    private static void savesOne(String name, Supplier<ChronicleRows> maker, Consumer<ChronicleRows> call) {
        ChronicleRows x = maker.get();
        int saved = x.count(8);
        call.accept(x);
        DUE.same(name + ": saved states", x.count(8), saved + 1);
        DUE.same(name + ": undo", x.undo(), saved);
        ChronicleRows untouched = maker.get();
        DUE.same(name + ": looks behind undo", looks(x), looks(untouched));
        x.clearBuffer();
        untouched.clearBuffer();
        DUE.same(name + ": all behind undo", told(x, true), told(untouched, true));
    }

    private static void undoableSaves() {
        DUE.sentence("Each method that is marked \"undoable\" saves the state (also if it changes nothing, or is refused)");
        savesOne("person", SavedBoundariesTest::rich, x -> x.person(2));
        savesOne("person, the row is full", SavedBoundariesTest::withFullRow, x -> x.person(1));
        savesOne("person, there are 20", SavedBoundariesTest::full, x -> x.person(3));
        savesOne("marry", SavedBoundariesTest::tangled, x -> x.marry(5, 4));
        savesOne("marry, refused by 1", SavedBoundariesTest::full, x -> x.marry(12, 13));
        savesOne("marry, refused by 2", SavedBoundariesTest::tangled, x -> x.marry(0, 4));
        savesOne("marry, refused by 3", SavedBoundariesTest::tangled, x -> x.marry(1, 0));
        savesOne("marry, refused by 4", SavedBoundariesTest::tangled, x -> x.marry(0, 3));
        savesOne("child", SavedBoundariesTest::tangled, x -> x.child(2));
        savesOne("child, the row is full", SavedBoundariesTest::withFullRow, x -> x.child(0));
        savesOne("child, there are 20", SavedBoundariesTest::full, x -> x.child(9));
        savesOne("swap", SavedBoundariesTest::tangled, x -> x.swap(0, 1));
        savesOne("byParents", SavedBoundariesTest::tangled, x -> x.byParents(1));
        savesOne("byParents, nothing changes", SavedBoundariesTest::tangled, x -> x.byParents(0));
        savesOne("byParents, an empty row", SavedBoundariesTest::tangled, x -> x.byParents(3));
        savesOne("untangle", SavedBoundariesTest::tangled, x -> x.untangle(1));
        savesOne("untangle, nothing changes", SavedBoundariesTest::full, x -> x.untangle(3));
        savesOne("untangle, an empty row", SavedBoundariesTest::tangled, x -> x.untangle(2));
        savesOne("run", () -> withText(tangled(), "0;+4&7;^3"), ChronicleRows::run);
        savesOne("run, some are done", () -> withText(tangled(), "0;+4&7;+4&7;^3"), ChronicleRows::run);
        savesOne("run, none is done", () -> withText(tangled(), "^9;0"), ChronicleRows::run);
        savesOne("run, the first one is refused", () -> withText(tangled(), "+0&1;0"), ChronicleRows::run);
        savesOne("goBack", SavedBoundariesTest::rich, x -> x.goBack(1));
        savesOne("goBack, nothing changes", SavedBoundariesTest::tangled, x -> x.goBack(0));
    }

    private static void undoableCountsOn() {
        DUE.sentence("saves all, also what is counted so far");
        ChronicleRows x = withFullRow();
        for (int refused = 1; refused <= 4; refused++) {
            x.person(1);
            DUE.same("refused", x.count(7), refused);
        }
        for (int refused = 3; refused >= 0; refused--) {
            x.undo();
            DUE.same("refused, behind undo", x.count(7), refused);
        }
        x.person(1);
        x.keep(1);
        x.person(1);
        x.goBack(1);
        DUE.same("refused, behind goBack", x.count(7), 1);
        x.undo();
        DUE.same("refused, behind undo of goBack", x.count(7), 2);
    }

    private static void savedIsNot() {
        DUE.sentence("saves not the buffer, the slots and the saved states");
        ChronicleRows x = Made.withPeople(0, 0);
        Made.type(x, "0;1");
        x.person(1);
        x.keep(1);
        x.clearBuffer();
        Made.type(x, "x");
        x.undo();
        DUE.same("the buffer stays", x.clearBuffer(), 1);
        DUE.same("the slot stays", x.goBack(1), 3);
        Made.type(x, "0");
        x.run();
        DUE.same("undo of run", x.undo(), 3);
        DUE.same("the buffer is not restored", x.clearBuffer(), 0);
    }

    private static void restoresAndDrops() {
        DUE.sentence("Restores the latest saved state, and drops it");
        ChronicleRows x = Made.withPeople(0, 1, 2, 3);
        for (int left = 3; left >= 0; left--) {
            DUE.same("undo", x.undo(), left);
            DUE.same("people", x.count(0), left);
            DUE.same("saved states", x.count(8), left);
        }
        x.person(3);
        x.person(3);
        x.undo();
        DUE.same("person behind undo", x.person(2), 1);
        x.undo();
        DUE.same("people behind undo", x.count(0), 1);
        x.undo();
        DUE.same("nobody", x.count(0), 0);
    }

    private static void nothingToRestore() {
        DUE.sentence("undo throws IllegalStateException if there is none");
        ChronicleRows x = new ChronicleRows();
        DUE.thrown("undo of a new object", NOT_NOW, x::undo);
        x.keep(0);
        x.append('x');
        x.count(0);
        DUE.thrown("undo behind calls that save nothing", NOT_NOW, x::undo);
        x.person(0);
        DUE.same("undo", x.undo(), 0);
        DUE.thrown("undo again", NOT_NOW, x::undo);
        for (int times = 0; times < 7; times++) {
            x.person(0);
        }
        for (int left = 5; left >= 0; left--) {
            DUE.same("undo", x.undo(), left);
        }
        DUE.thrown("undo, the seventh", NOT_NOW, x::undo);
        DUE.same("people stay", x.count(0), 1);
    }

    private static void sixSavedStates() {
        DUE.sentence("At most 6 states are saved");
        ChronicleRows x = new ChronicleRows();
        for (int calls = 1; calls <= 20; calls++) {
            x.person(calls % 4);
            DUE.same("saved states", x.count(8), Math.min(calls, 6));
        }
        DUE.same("undo", x.undo(), 5);
        x.swap(0, 0);
        DUE.same("saved states", x.count(8), 6);
        x.swap(0, 0);
        DUE.same("saved states", x.count(8), 6);
    }

    /** In any mixture of calls, of undo, and of calls again. */
    private static void oldestIsDropped() {
        DUE.sentence("the oldest one is dropped first");
        for (int first = 0; first <= 14; first++) {
            for (int undone = 0; undone <= 6; undone++) {
                for (int then = 0; then <= 8; then++) {
                    mixture(first, undone, then);
                }
            }
        }
    }

    private static void mixture(int first, int undone, int then) {
        String name = first + " calls, " + undone + " undo, " + then + " calls";
        ChronicleRows x = new ChronicleRows();
        Deque<Integer> saved = new ArrayDeque<>();
        callTimes(x, saved, first);
        for (int times = 0; times < undone && !saved.isEmpty(); times++) {
            restore(name, x, saved);
        }
        callTimes(x, saved, then);
        while (!saved.isEmpty()) {
            restore(name, x, saved);
        }
        DUE.thrown(name + ", and no more", NOT_NOW, x::undo);
    }

    /** Each call of person(3) makes another number of this, also if it is refused. */
    private static int peopleAndRefused(ChronicleRows x) {
        return 100 * x.count(0) + x.count(7);
    }

    private static void callTimes(ChronicleRows x, Deque<Integer> saved, int times) {
        for (int call = 0; call < times; call++) {
            saved.push(peopleAndRefused(x));
            if (saved.size() > 6) {
                saved.removeLast();
            }
            x.person(3);
            DUE.same("saved states", x.count(8), saved.size());
        }
    }

    private static void restore(String name, ChronicleRows x, Deque<Integer> saved) {
        int before = saved.pop();
        DUE.same(name + ": undo", x.undo(), saved.size());
        DUE.same(name + ": people and refused", peopleAndRefused(x), before);
    }

    private static void othersSaveNothing() {
        DUE.sentence("a method that is not marked \"undoable\" saves nothing");
        ChronicleRows x = Made.withPeople(0, 0, 1);
        int saved = x.count(8);
        DUE.same("three calls of person", saved, 3);
        x.append('0');
        DUE.same("append", x.count(8), saved);
        x.clearBuffer();
        DUE.same("clearBuffer", x.count(8), saved);
        x.firstError();
        DUE.same("firstError", x.count(8), saved);
        x.keep(0);
        DUE.same("keep(0)", x.count(8), saved);
        x.keep(1);
        DUE.same("keep(1)", x.count(8), saved);
        x.undo();
        DUE.same("undo", x.count(8), saved - 1);
        x.undo();
        DUE.same("undo again", x.count(8), saved - 2);
    }

    private static void unchanged(String name, Supplier<ChronicleRows> maker, Consumer<ChronicleRows> call,
            boolean... kept) {
        ChronicleRows x = maker.get();
        call.accept(x);
        DUE.same(name + " changes nothing", told(x, kept), told(maker.get(), kept));
    }

    private static void looksChangeNothing() {
        DUE.sentence("looks, what would be; nothing is changed");
        for (int number = 0; number <= 6; number++) {
            int what = number;
            unchanged("personOf", SavedBoundariesTest::rich, x -> x.personOf(2, what), true, true);
            unchanged("coupleOf", SavedBoundariesTest::rich, x -> x.coupleOf(0, Math.min(what, 5)), true, true);
            unchanged("at", SavedBoundariesTest::rich, x -> x.at(0, what), true, true);
        }
        for (int number = 0; number <= 8; number++) {
            int what = number;
            unchanged("count", SavedBoundariesTest::rich, x -> x.count(what), true, true);
        }
        for (int number = 0; number <= 3; number++) {
            int row = number;
            for (int way = 0; way <= 1; way++) {
                int what = way;
                unchanged("crossings", SavedBoundariesTest::tangled, x -> x.crossings(row, what), true);
                unchanged("least", SavedBoundariesTest::tangled, x -> x.least(row, what), true);
            }
        }
        unchanged("bestSwap", SavedBoundariesTest::tangled, ChronicleRows::bestSwap, true);
        unchanged("nearness", SavedBoundariesTest::tangled, x -> x.nearness(0, 7), true);
        unchanged("straightShare", SavedBoundariesTest::tangled, ChronicleRows::straightShare, true);
        unchanged("digest", SavedBoundariesTest::tangled, ChronicleRows::digest, true);
        unchanged("firstError", SavedBoundariesTest::rich, ChronicleRows::firstError, true, true);
    }

    private static void throwing(String name, Class<? extends RuntimeException> due, Function<ChronicleRows, Object> call) {
        throwing(name, SavedBoundariesTest::rich, due, call, true, true);
    }

    private static void throwing(String name, Supplier<ChronicleRows> maker, Class<? extends RuntimeException> due,
            Function<ChronicleRows, Object> call, boolean... kept) {
        unchanged(name, maker, x -> DUE.thrown(name, due, () -> call.apply(x)), kept);
    }

    private static void exceptionsChangeNothing() {
        DUE.sentence("A call that throws an exception changes nothing (the buffer stays as it is, too)");
        throwing("person(-1)", NO_SUCH, x -> x.person(-1));
        throwing("person(4)", NO_SUCH, x -> x.person(4));
        throwing("marry(4, 0)", NO_SUCH, x -> x.marry(4, 0));
        throwing("marry(0, -1)", NO_SUCH, x -> x.marry(0, -1));
        throwing("marry(3, 3)", WRONG, x -> x.marry(3, 3));
        throwing("child(-1)", NO_SUCH, x -> x.child(-1));
        throwing("child(1)", NO_SUCH, x -> x.child(1));
        throwing("swap(4, 0)", NO_SUCH, x -> x.swap(4, 0));
        throwing("swap(0, -1)", WRONG, x -> x.swap(0, -1));
        throwing("swap(0, 2)", WRONG, x -> x.swap(0, 2));
        throwing("byParents(4)", NO_SUCH, x -> x.byParents(4));
        throwing("untangle(-1)", NO_SUCH, x -> x.untangle(-1));
        throwing("append(32)", WRONG, x -> x.append(32));
        throwing("append(127)", WRONG, x -> x.append(127));
        throwing("run", WRONG, ChronicleRows::run);
        throwing("keep(2)", WRONG, x -> x.keep(2));
        throwing("keep(-1)", WRONG, x -> x.keep(-1));
        throwing("goBack(2)", WRONG, x -> x.goBack(2));
        throwing("goBack(-1)", WRONG, x -> x.goBack(-1));
        throwing("personOf(4, 0)", NO_SUCH, x -> x.personOf(4, 0));
        throwing("personOf(0, 7)", WRONG, x -> x.personOf(0, 7));
        throwing("coupleOf(1, 0)", NO_SUCH, x -> x.coupleOf(1, 0));
        throwing("coupleOf(0, 6)", WRONG, x -> x.coupleOf(0, 6));
        throwing("at(4, 0)", NO_SUCH, x -> x.at(4, 0));
        throwing("at(0, -1)", WRONG, x -> x.at(0, -1));
        throwing("crossings(4, 0)", NO_SUCH, x -> x.crossings(4, 0));
        throwing("crossings(1, 2)", WRONG, x -> x.crossings(1, 2));
        throwing("count(9)", WRONG, x -> x.count(9));
        throwing("least(4, 0)", NO_SUCH, x -> x.least(4, 0));
        throwing("least(1, 2)", WRONG, x -> x.least(1, 2));
        throwing("nearness(0, 4)", NO_SUCH, x -> x.nearness(0, 4));
    }

    private static void exceptionsOfOthers() {
        DUE.sentence("A call that throws an exception changes nothing, of other chronicles");
        Supplier<ChronicleRows> sixty = () -> withText(rich(), "0;".repeat(30));
        throwing("append, a full buffer", sixty, NOT_NOW, x -> x.append('0'), true, true);
        throwing("append(32), a full buffer", sixty, WRONG, x -> x.append(32), true, true);
        throwing("run, a full buffer", sixty, WRONG, ChronicleRows::run, true, true);
        throwing("run, an empty buffer", () -> withText(rich(), ""), WRONG, ChronicleRows::run, true, true);
        throwing("undo of a new object", ChronicleRows::new, NOT_NOW, ChronicleRows::undo);
        throwing("goBack(0) of a new object", ChronicleRows::new, NOT_NOW, x -> x.goBack(0));
        throwing("goBack(1), only slot 0 is full", SavedBoundariesTest::tangled, NOT_NOW, x -> x.goBack(1), true);
        throwing("child(0) of a new object", ChronicleRows::new, NO_SUCH, x -> x.child(0));
        throwing("marry(0, 1) of a new object", ChronicleRows::new, NO_SUCH, x -> x.marry(0, 1));
        throwing("child(10), 20 people", SavedBoundariesTest::full, NO_SUCH, x -> x.child(10), true);
        throwing("marry(3, 3), 10 couples", SavedBoundariesTest::full, WRONG, x -> x.marry(3, 3), true);
        throwing("marry(0, 20), 10 couples", SavedBoundariesTest::full, NO_SUCH, x -> x.marry(0, 20), true);
        throwing("person(4), 20 people", SavedBoundariesTest::full, NO_SUCH, x -> x.person(4), true);
        throwing("swap of an empty row", SavedBoundariesTest::tangled, WRONG, x -> x.swap(3, 0), true);
    }

    private static void firstNamed() {
        DUE.sentence("If several exceptions apply, the one that is named first in the throws clause is thrown");
        throwing("marry(4, 4): ahead of both the same", NO_SUCH, x -> x.marry(4, 4));
        throwing("marry(-1, -1): ahead of both the same", NO_SUCH, x -> x.marry(-1, -1));
        throwing("swap(4, -1): ahead of no such place", NO_SUCH, x -> x.swap(4, -1));
        throwing("swap(-1, 5): ahead of no such place", NO_SUCH, x -> x.swap(-1, 5));
        throwing("personOf(4, 7): ahead of what", NO_SUCH, x -> x.personOf(4, 7));
        throwing("personOf(-1, -1): ahead of what", NO_SUCH, x -> x.personOf(-1, -1));
        throwing("coupleOf(1, 6): ahead of what", NO_SUCH, x -> x.coupleOf(1, 6));
        throwing("coupleOf(-1, -1): ahead of what", NO_SUCH, x -> x.coupleOf(-1, -1));
        throwing("at(4, -1): ahead of place", NO_SUCH, x -> x.at(4, -1));
        throwing("at(-1, -1): ahead of place", NO_SUCH, x -> x.at(-1, -1));
        throwing("crossings(4, 2): ahead of what", NO_SUCH, x -> x.crossings(4, 2));
        throwing("crossings(-1, -1): ahead of what", NO_SUCH, x -> x.crossings(-1, -1));
        throwing("least(4, 2): ahead of what", NO_SUCH, x -> x.least(4, 2));
        throwing("least(-1, -1): ahead of what", NO_SUCH, x -> x.least(-1, -1));
        Supplier<ChronicleRows> sixty = () -> withText(rich(), "0".repeat(60));
        throwing("append(127): ahead of a full buffer", sixty, WRONG, x -> x.append(127), true, true);
        throwing("goBack(2): ahead of no snapshot", ChronicleRows::new, WRONG, x -> x.goBack(2));
        throwing("goBack(-1): ahead of no snapshot", ChronicleRows::new, WRONG, x -> x.goBack(-1));
    }

    private static void constants() {
        DUE.sentence("NONE = -1: There is nothing to return");
        DUE.same("NONE", ChronicleRows.NONE, NONE);
        ChronicleRows x = Made.withPeople(3, 3, 3, 3, 3, 3);
        DUE.same("person", x.person(3), NONE);
        DUE.same("at", x.at(0, 0), NONE);
        DUE.same("personOf", x.personOf(0, 2), NONE);
        DUE.same("bestSwap", x.bestSwap(), NONE);
        DUE.same("nearness", x.nearness(0, 1), NONE);
    }
}
