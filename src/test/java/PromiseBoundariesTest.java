import java.math.BigInteger;
import java.util.ArrayList;
import java.util.List;

/**
 * The boundaries that the promises name in their own lines (but those of texts,
 * snapshots and undo): a part of its own for each sentence.
 */
final class PromiseBoundariesTest {
    private static final Class<IndexOutOfBoundsException> NO_SUCH = IndexOutOfBoundsException.class;
    private static final Class<IllegalArgumentException> WRONG = IllegalArgumentException.class;
    private static final Class<IllegalStateException> NOT_NOW = IllegalStateException.class;
    private static final int NONE = -1;
    private static final int[] FAR = {Integer.MIN_VALUE, Integer.MIN_VALUE + 1, -100, Integer.MAX_VALUE - 1, Integer.MAX_VALUE};

    private static final Due DUE = new Due();

    private PromiseBoundariesTest() {
    }

    public static void main(String[] args) {
        DUE.part(PromiseBoundariesTest::newObject);
        DUE.part(PromiseBoundariesTest::objectsApart);
        DUE.part(PromiseBoundariesTest::personReturns);
        DUE.part(PromiseBoundariesTest::marryReturns);
        DUE.part(PromiseBoundariesTest::marryFirstReason);
        DUE.part(PromiseBoundariesTest::marryThrows);
        DUE.part(PromiseBoundariesTest::childReturns);
        DUE.part(PromiseBoundariesTest::childThrows);
        DUE.part(PromiseBoundariesTest::swapPlaces);
        DUE.part(PromiseBoundariesTest::swapReturns);
        DUE.part(PromiseBoundariesTest::byParentsReturns);
        DUE.part(PromiseBoundariesTest::untangleFirstOrder);
        DUE.part(PromiseBoundariesTest::untangleReturns);
        DUE.part(PromiseBoundariesTest::personRange);
        DUE.part(PromiseBoundariesTest::personWhat);
        DUE.part(PromiseBoundariesTest::personNumbers);
        DUE.part(PromiseBoundariesTest::coupleRange);
        DUE.part(PromiseBoundariesTest::coupleWhat);
        DUE.part(PromiseBoundariesTest::coupleNumbers);
        DUE.part(PromiseBoundariesTest::atPlaces);
        DUE.part(PromiseBoundariesTest::crossingsWhat);
        DUE.part(PromiseBoundariesTest::crossingsOneByOne);
        DUE.part(PromiseBoundariesTest::countWhat);
        DUE.part(PromiseBoundariesTest::countNumbers);
        DUE.part(PromiseBoundariesTest::leastWhat);
        DUE.part(PromiseBoundariesTest::leastNumbers);
        DUE.part(PromiseBoundariesTest::bestSwapNone);
        DUE.part(PromiseBoundariesTest::bestSwapLeast);
        DUE.part(PromiseBoundariesTest::nearnessRange);
        DUE.part(PromiseBoundariesTest::nearnessNumbers);
        DUE.part(PromiseBoundariesTest::straightShare);
        DUE.part(PromiseBoundariesTest::digestOfLeastAndMost);
        DUE.part(PromiseBoundariesTest::digestOverflows);
        DUE.part(PromiseBoundariesTest::digestValues);
        DUE.end();
    }

    private static void order(ChronicleRows of, int row, int... people) {
        for (int place = 0; place < 6; place++) {
            int want = place < people.length ? people[place] : NONE;
            DUE.same("at(" + row + ", " + place + ")", of.at(row, place), want);
        }
    }

    private static void newObject() {
        DUE.sentence("1: Creates an empty chronicle, with empty slots and an empty buffer");
        ChronicleRows x = new ChronicleRows();
        for (int what = 0; what <= 8; what++) {
            DUE.same("count(" + what + ")", x.count(what), 0);
        }
        for (int row = 0; row <= 3; row++) {
            order(x, row);
            DUE.same("byParents", x.byParents(row), 0);
            DUE.same("untangle", x.untangle(row), 0);
            DUE.same("least", x.least(row, 0) + x.least(row, 1), 0);
            DUE.same("crossings", x.crossings(row, 0) + x.crossings(row, 1), 0);
        }
        DUE.same("bestSwap", x.bestSwap(), NONE);
        DUE.same("straightShare", x.straightShare(), 1.0);
        DUE.same("firstError", x.firstError(), 0);
        DUE.thrown("run", WRONG, x::run);
        DUE.same("clearBuffer", x.clearBuffer(), 0);
        DUE.thrown("goBack(0)", NOT_NOW, () -> x.goBack(0));
        DUE.thrown("goBack(1)", NOT_NOW, () -> x.goBack(1));
        DUE.thrown("undo", NOT_NOW, new ChronicleRows()::undo);
    }

    private static void objectsApart() {
        DUE.sentence("1: each object is a chronicle of its own");
        ChronicleRows x = Made.full();
        Made.type(x, "0;1");
        x.keep(0);
        ChronicleRows y = new ChronicleRows();
        DUE.same("people of the other", y.count(0), 0);
        DUE.same("saved states of the other", y.count(8), 0);
        DUE.same("the buffer of the other", y.clearBuffer(), 0);
        DUE.thrown("goBack(0) of the other", NOT_NOW, () -> y.goBack(0));
        y.person(3);
        y.keep(0);
        DUE.same("goBack(0)", x.goBack(0), 20);
        DUE.same("the buffer", x.clearBuffer(), 3);
    }

    private static void personReturns() {
        DUE.sentence("2: NONE if it is refused, as the row is full, or there are 20 people");
        ChronicleRows x = Made.withPeople(1, 1, 1, 1, 1);
        DUE.same("the sixth of a row", x.person(1), 5);
        DUE.same("the seventh of a row", x.person(1), NONE);
        DUE.same("refused", x.count(7), 1);
        DUE.same("of another row", x.person(0), 6);
        ChronicleRows y = Made.withPeople(0, 0, 0, 0, 0, 1, 1, 1, 1, 1, 2, 2, 2, 2, 2, 3, 3, 3, 3);
        DUE.same("the 20th", y.person(3), 19);
        DUE.same("the 21st", y.person(3), NONE);
        DUE.same("the 21st, of another row", y.person(0), NONE);
        DUE.same("refused", y.count(7), 2);
        DUE.same("the 21st of a full row", Made.full().person(0), NONE);
        DUE.sentence("2: row: 0 to 3");
        for (int row : FAR) {
            DUE.thrown("person(" + row + ")", NO_SUCH, () -> x.person(row));
        }
        DUE.thrown("person(-1)", NO_SUCH, () -> x.person(-1));
        DUE.thrown("person(4)", NO_SUCH, () -> x.person(4));
        DUE.thrown("person(4), there are 20", NO_SUCH, () -> y.person(4));
        DUE.same("person(0)", Made.withPeople(3).person(0), 1);
        DUE.same("person(3)", Made.withPeople(3).person(3), 1);
    }

    private static void marryReturns() {
        DUE.sentence("3: Returns the number of the couple, plus 10; if it is refused the first reason");
        ChronicleRows x = Made.withPeople(0, 0, 0, 0, 0, 0, 2, 2, 2, 2, 2, 2, 3, 3, 1);
        int[][] couples = {{0, 1}, {1, 2}, {2, 3}, {3, 4}, {4, 5}, {6, 7}, {7, 8}, {8, 9}, {9, 10}, {10, 11}};
        for (int couple = 0; couple < 10; couple++) {
            DUE.same("marry", x.marry(couples[couple][0], couples[couple][1]), 10 + couple);
            DUE.same("couples", x.count(1), couple + 1);
        }
        DUE.same("1: there are 10 couples", x.marry(0, 5), 1);
        ChronicleRows y = Made.withPeople(0, 0, 0, 0, 3, 3, 2);
        DUE.same("2: not of the same row", y.marry(0, 4), 2);
        DUE.same("2: not of the same row", y.marry(6, 5), 2);
        DUE.same("2: of the row 3", y.marry(4, 5), 2);
        DUE.same("0 and 1", y.marry(0, 1), 10);
        DUE.same("3: a couple already", y.marry(1, 0), 3);
        DUE.same("1 and 2", y.marry(1, 2), 11);
        DUE.same("4: the first one is a double", y.marry(1, 3), 4);
        DUE.same("4: the second one is a double", y.marry(3, 1), 4);
        DUE.same("2 and 3", y.marry(2, 3), 12);
        DUE.same("3 and 0", y.marry(3, 0), 13);
        DUE.same("4: both are doubles", y.marry(0, 2), 4);
        DUE.same("refused", y.count(7), 7);
        DUE.same("couples", y.count(1), 4);
    }

    private static void marryFirstReason() {
        DUE.sentence("3: the first reason that is so");
        ChronicleRows x = Made.full();
        DUE.same("1, and nothing else", x.marry(12, 13), 1);
        DUE.same("1 ahead of 2, two rows", x.marry(12, 18), 1);
        DUE.same("1 ahead of 2, the row 3", x.marry(18, 19), 1);
        DUE.same("1 ahead of 3", x.marry(5, 4), 1);
        DUE.same("1 ahead of 4", x.marry(1, 3), 1);
        DUE.same("1 ahead of 2 and 4", x.marry(1, 18), 1);
        DUE.same("ten couples still", x.count(1), 10);
        ChronicleRows y = Made.withPeople(0, 0, 0, 0, 3, 1, 1, 1);
        y.marry(0, 1);
        y.marry(0, 2);
        y.marry(6, 5);
        y.marry(6, 7);
        DUE.same("2 ahead of 4", y.marry(0, 4), 2);
        DUE.same("2 ahead of 4, the other way round", y.marry(4, 0), 2);
        DUE.same("2 ahead of 4, both are doubles", y.marry(0, 6), 2);
        DUE.same("3 ahead of 4", y.marry(1, 0), 3);
        DUE.same("3 ahead of 4, the other way round", y.marry(0, 2), 3);
        DUE.same("4, and nothing else", y.marry(0, 3), 4);
    }

    private static void marryThrows() {
        DUE.sentence("3: person: a person; other: another person");
        ChronicleRows x = Made.withPeople(1, 1, 1);
        DUE.thrown("marry(3, 0)", NO_SUCH, () -> x.marry(3, 0));
        DUE.thrown("marry(0, 3)", NO_SUCH, () -> x.marry(0, 3));
        DUE.thrown("marry(-1, 0)", NO_SUCH, () -> x.marry(-1, 0));
        DUE.thrown("marry(0, -1)", NO_SUCH, () -> x.marry(0, -1));
        DUE.thrown("marry(3, 3)", NO_SUCH, () -> x.marry(3, 3));
        DUE.thrown("marry(0, 0)", WRONG, () -> x.marry(0, 0));
        DUE.thrown("marry(2, 2)", WRONG, () -> x.marry(2, 2));
        for (int wrong : FAR) {
            DUE.thrown("marry(0, " + wrong + ")", NO_SUCH, () -> x.marry(0, wrong));
            DUE.thrown("marry(" + wrong + ", 0)", NO_SUCH, () -> x.marry(wrong, 0));
        }
        DUE.same("marry(2, 0), the last and the first one", x.marry(2, 0), 10);
        ChronicleRows all = Made.full();
        DUE.thrown("marry(19, 20), there are 20", NO_SUCH, () -> all.marry(19, 20));
        DUE.thrown("marry(20, 20), there are 20", NO_SUCH, () -> all.marry(20, 20));
        DUE.thrown("marry(19, 19), there are 20", WRONG, () -> all.marry(19, 19));
        DUE.same("marry(19, 18), there are 10 couples", all.marry(19, 18), 1);
        DUE.thrown("marry(0, 0) of an empty chronicle", NO_SUCH, () -> new ChronicleRows().marry(0, 0));
    }

    private static void childReturns() {
        DUE.sentence("4: NONE if it is refused, as the row is full, or there are 20 people");
        ChronicleRows x = Made.withPeople(1, 1, 2, 2, 2, 2, 2);
        x.marry(0, 1);
        DUE.same("the sixth of a row", x.child(0), 7);
        DUE.same("the seventh of a row", x.child(0), NONE);
        DUE.same("refused", x.count(7), 1);
        DUE.same("the row of the couple is not full", x.person(1), 8);
        ChronicleRows y = Made.withPeople(0, 0, 0, 0, 0, 1, 1, 1, 1, 1, 2, 2, 2, 2, 2, 3, 3, 3, 3);
        y.marry(0, 4);
        DUE.same("the 20th", y.child(0), 19);
        DUE.same("the place of the 20th", y.personOf(19, 1), 5);
        DUE.same("the 21st of a full row", y.child(0), NONE);
        y.marry(10, 14);
        DUE.same("the 21st", y.child(1), NONE);
        DUE.same("refused", y.count(7), 2);
        DUE.same("children", y.coupleOf(1, 4), 0);
    }

    private static void childThrows() {
        DUE.sentence("4: couple: the number of a couple");
        ChronicleRows x = Made.withPeople(1, 1, 1);
        DUE.thrown("child(0), no couples", NO_SUCH, () -> x.child(0));
        x.marry(0, 1);
        x.marry(1, 2);
        DUE.thrown("child(2)", NO_SUCH, () -> x.child(2));
        DUE.thrown("child(-1)", NO_SUCH, () -> x.child(-1));
        for (int wrong : FAR) {
            DUE.thrown("child(" + wrong + ")", NO_SUCH, () -> x.child(wrong));
        }
        DUE.same("child(1), the last couple", x.child(1), 3);
        x.undo();
        x.undo();
        DUE.thrown("child(1), the couple was undone", NO_SUCH, () -> x.child(1));
        DUE.same("child(0)", x.child(0), 3);
        ChronicleRows all = Made.full();
        DUE.same("child(9), refused as there are 20", all.child(9), NONE);
        DUE.thrown("child(10)", NO_SUCH, () -> all.child(10));
    }

    private static void swapPlaces() {
        DUE.sentence("5: place: of the left one; no such place, or nobody to the right of it");
        for (int people = 0; people <= 6; people++) {
            ChronicleRows x = new ChronicleRows();
            for (int times = 0; times < people; times++) {
                x.person(2);
            }
            int size = people;
            for (int place = 0; place < people - 1; place++) {
                DUE.same("swap of " + people, x.swap(2, place), 100);
                DUE.same("the right one then", x.at(2, place + 1), 0);
            }
            DUE.thrown("swap of " + people + ", the last one", WRONG, () -> x.swap(2, size - 1));
            DUE.thrown("swap of " + people + ", behind", WRONG, () -> x.swap(2, size));
            DUE.thrown("swap of " + people + ", -1", WRONG, () -> x.swap(2, -1));
            for (int wrong : FAR) {
                DUE.thrown("swap of " + people + ", " + wrong, WRONG, () -> x.swap(2, wrong));
            }
        }
    }

    private static void swapReturns() {
        DUE.sentence("5: Returns by how much all crossings become more, and 100, together");
        // Three children of 0 and 1, middle 1, then three of 0 and 2, middle 2; exchanged, the middles are 2 and 1.
        ChronicleRows x = Made.withPeople(0, 0, 0);
        x.marry(0, 1);
        x.marry(0, 2);
        for (int child = 0; child < 6; child++) {
            x.child(child / 3);
        }
        DUE.same("nine more", x.swap(0, 1), 109);
        DUE.same("all crossings", x.count(3), 9);
        DUE.same("one less", x.swap(1, 2), 99);
        DUE.same("one more", x.swap(1, 2), 101);
        DUE.same("children of one couple", x.swap(1, 0), 100);
        DUE.same("nine less", x.swap(0, 1), 91);
        DUE.same("of the same middle then", x.swap(0, 0), 100);
        // The exchange of two who are parents and children counts both ways: to the row 1 and from it.
        ChronicleRows y = Made.withPeople(0, 0, 0, 1);
        y.marry(0, 1);
        y.marry(1, 2);
        y.child(0);
        y.child(1);
        y.marry(3, 4);
        y.marry(3, 5);
        y.child(3);
        y.child(2);
        DUE.same("crossings to and from", 10 * y.crossings(1, 0) + y.crossings(2, 0), 1);
        DUE.same("one more to it, one less from it", y.swap(1, 1), 100);
        DUE.same("crossings to and from", 10 * y.crossings(1, 0) + y.crossings(2, 0), 10);
    }

    private static void byParentsReturns() {
        DUE.sentence("6: Returns how many people get another place");
        // From the left the middles 5 3 1: the one in the middle stays.
        ChronicleRows x = Made.withPeople(0, 0, 0, 0);
        x.marry(2, 3);
        x.marry(1, 2);
        x.marry(0, 1);
        x.child(0);
        x.child(1);
        x.child(2);
        DUE.same("byParents(1)", x.byParents(1), 2);
        order(x, 1, 6, 5, 4);
        DUE.same("byParents(1), none", x.byParents(1), 0);
        x.swap(1, 1);
        DUE.same("byParents(1), two", x.byParents(1), 2);
        DUE.same("byParents(0), without parents", x.byParents(0), 0);
        DUE.same("byParents(2), an empty row", x.byParents(2), 0);
        // One without parents to the left of five with the same.
        ChronicleRows y = Made.withPeople(3, 2, 2);
        y.marry(1, 2);
        for (int times = 0; times < 5; times++) {
            y.child(0);
        }
        DUE.same("byParents(3), all six", y.byParents(3), 6);
        order(y, 3, 3, 4, 5, 6, 7, 0);
        ChronicleRows z = Made.withPeople(3);
        DUE.same("byParents(3), one person", z.byParents(3), 0);
        DUE.sentence("6: row: 0 to 3");
        for (int row : FAR) {
            DUE.thrown("byParents(" + row + ")", NO_SUCH, () -> x.byParents(row));
        }
    }

    private static void untangleFirstOrder() {
        DUE.sentence("7: of all such orders the first one, as they are compared by the numbers of the people");
        ChronicleRows x = Made.withPeople(3, 3, 3, 3, 3, 3);
        for (int place = 4; place >= 0; place--) {
            x.swap(3, place);
        }
        order(x, 3, 5, 0, 1, 2, 3, 4);
        DUE.same("untangle(3)", x.untangle(3), 0);
        order(x, 3, 0, 1, 2, 3, 4, 5);
        // 9 and 10: as numbers, not as texts.
        ChronicleRows y = Made.withPeople(0, 0, 0, 0, 0, 0, 1, 1, 1, 2, 2, 2);
        y.swap(2, 0);
        y.swap(2, 1);
        order(y, 2, 10, 11, 9);
        y.untangle(2);
        order(y, 2, 9, 10, 11);
        // Both orders with 5 ahead of 4 have no crossing, wherever 2 stands, who is without parents.
        ChronicleRows z = Made.withPeople(0, 0, 1, 0);
        z.marry(1, 3);
        z.marry(0, 1);
        z.child(0);
        z.child(1);
        DUE.same("untangle(1)", z.untangle(1), 0);
        order(z, 1, 2, 5, 4);
        z.swap(1, 0);
        DUE.same("untangle(1) from another of the least", z.untangle(1), 0);
        order(z, 1, 2, 5, 4);
        ChronicleRows one = Made.withPeople(2);
        DUE.same("untangle of one", one.untangle(2), 0);
        order(one, 2, 0);
        DUE.sentence("7: row: 0 to 3");
        for (int row : FAR) {
            DUE.thrown("untangle(" + row + ")", NO_SUCH, () -> x.untangle(row));
        }
    }

    private static void untangleReturns() {
        DUE.sentence("7: Returns the crossings of the lines to it and from it then, together");
        ChronicleRows x = Made.knot();
        DUE.same("untangle(1)", x.untangle(1), 2);
        order(x, 1, 4, 6, 7, 5);
        DUE.same("crossings to it", x.crossings(1, 0), 2);
        DUE.same("crossings from it", x.crossings(2, 0), 0);
        DUE.same("untangle(1) again", x.untangle(1), 2);
        // As 4 5 6 7 no lines to it cross, and one pair from it does: children of 6 and 7, then of 4 and 5.
        ChronicleRows from = Made.twoFamilies();
        from.child(2);
        from.child(3);
        DUE.same("untangle(1), where lines from it cross", from.untangle(1), 1);
        DUE.same("crossings to it", from.crossings(1, 0), 0);
        DUE.same("crossings from it", from.crossings(2, 0), 1);
        // Crossings between other rows are not in it.
        DUE.same("untangle(3)", x.untangle(3), 0);
        ChronicleRows y = Made.knot();
        y.swap(1, 0);
        y.swap(1, 1);
        y.swap(1, 2);
        order(y, 1, 5, 6, 7, 4);
        DUE.same("untangle(2): lines to it alone", y.untangle(2), 0);
        DUE.same("untangle(0): lines from it alone", y.untangle(0), 0);
    }

    private static void personRange() {
        DUE.sentence("15: person: a person");
        ChronicleRows x = Made.withPeople(2, 2, 3);
        DUE.same("personOf(0, 0)", x.personOf(0, 0), 2);
        DUE.same("personOf(2, 0), the last one", x.personOf(2, 0), 3);
        DUE.thrown("personOf(3, 0)", NO_SUCH, () -> x.personOf(3, 0));
        DUE.thrown("personOf(-1, 0)", NO_SUCH, () -> x.personOf(-1, 0));
        for (int what = 0; what <= 6; what++) {
            int number = what;
            DUE.thrown("personOf(3, " + what + ")", NO_SUCH, () -> x.personOf(3, number));
            DUE.thrown("personOf(-1, " + what + ")", NO_SUCH, () -> x.personOf(-1, number));
            for (int wrong : FAR) {
                DUE.thrown("personOf(" + wrong + ", " + what + ")", NO_SUCH, () -> x.personOf(wrong, number));
            }
        }
        DUE.thrown("personOf(0, 0) of an empty chronicle", NO_SUCH, () -> new ChronicleRows().personOf(0, 0));
        ChronicleRows all = Made.full();
        DUE.same("personOf(19, 1)", all.personOf(19, 1), 1);
        DUE.thrown("personOf(20, 1)", NO_SUCH, () -> all.personOf(20, 1));
        x.undo();
        DUE.thrown("personOf(2, 0), undone", NO_SUCH, () -> x.personOf(2, 0));
    }

    private static void personWhat() {
        DUE.sentence("15: what: 0 to 6");
        ChronicleRows x = Made.family();
        int[] want = {2, 0, 1, 1, 1, 1, 4};
        for (int what = 0; what <= 6; what++) {
            DUE.same("personOf(6, " + what + ")", x.personOf(6, what), want[what]);
        }
        DUE.thrown("personOf(6, -1)", WRONG, () -> x.personOf(6, -1));
        DUE.thrown("personOf(6, 7)", WRONG, () -> x.personOf(6, 7));
        for (int wrong : FAR) {
            DUE.thrown("personOf(6, " + wrong + ")", WRONG, () -> x.personOf(6, wrong));
            DUE.thrown("personOf(10, " + wrong + ")", NO_SUCH, () -> x.personOf(10, wrong));
        }
    }

    /** 0 and 1 of the row 0 have six children, of these two three times two, and of these two six: 18 descend. */
    private static ChronicleRows descended() {
        ChronicleRows made = Made.withPeople(0, 0);
        made.marry(0, 1);
        for (int row = 0; row <= 2; row++) {
            for (int times = 0; times < 6; times++) {
                made.child(row);
            }
            if (row < 2) {
                made.marry(7 + 6 * row, 2 + 6 * row);
            }
        }
        return made;
    }

    private static void personNumbers() {
        DUE.sentence("15: NONE if of none; together; all, each once");
        ChronicleRows x = descended();
        DUE.same("the couple of which 0 is a child", x.personOf(0, 2), NONE);
        DUE.same("the couple of which 2 is a child", x.personOf(2, 2), 0);
        DUE.same("the couple of which 19 is a child", x.personOf(19, 2), 2);
        DUE.same("all who descend from 0", x.personOf(0, 5), 18);
        DUE.same("all who descend from 1", x.personOf(1, 5), 18);
        DUE.same("all who descend from 2", x.personOf(2, 5), 12);
        DUE.same("all who descend from 3, without children", x.personOf(3, 5), 0);
        DUE.same("all who descend from 13", x.personOf(13, 5), 6);
        DUE.same("all who descend from 19", x.personOf(19, 5), 0);
        DUE.same("all ancestors of 0", x.personOf(0, 6), 0);
        DUE.same("all ancestors of 7", x.personOf(7, 6), 2);
        DUE.same("all ancestors of 8, whose parents have the same ones", x.personOf(8, 6), 4);
        DUE.same("all ancestors of 19", x.personOf(19, 6), 6);
        DUE.same("all ancestors of 6 of a family", Made.family().personOf(6, 6), 4);
        DUE.same("children of 0", x.personOf(0, 4), 6);
        DUE.same("children of 3, in no couple", x.personOf(3, 4), 0);
        // A double with three children of one couple and two of the other one.
        ChronicleRows y = Made.withPeople(0, 0, 0);
        y.marry(0, 1);
        y.marry(2, 1);
        for (int child = 0; child < 5; child++) {
            y.child(child % 2);
        }
        DUE.same("couples of a double", y.personOf(1, 3), 2);
        DUE.same("children of these, together", y.personOf(1, 4), 5);
        DUE.same("children of the first one", y.personOf(0, 4), 3);
        DUE.same("children of the other one", y.personOf(2, 4), 2);
    }

    private static void coupleRange() {
        DUE.sentence("16: couple: the number of a couple");
        ChronicleRows x = Made.withPeople(2, 2, 2);
        DUE.thrown("coupleOf(0, 0), no couples", NO_SUCH, () -> x.coupleOf(0, 0));
        x.marry(2, 1);
        DUE.same("coupleOf(0, 0)", x.coupleOf(0, 0), 1);
        for (int what = 0; what <= 5; what++) {
            int number = what;
            DUE.thrown("coupleOf(1, " + what + ")", NO_SUCH, () -> x.coupleOf(1, number));
            DUE.thrown("coupleOf(-1, " + what + ")", NO_SUCH, () -> x.coupleOf(-1, number));
            for (int wrong : FAR) {
                DUE.thrown("coupleOf(" + wrong + ", " + what + ")", NO_SUCH, () -> x.coupleOf(wrong, number));
            }
        }
        ChronicleRows all = Made.full();
        DUE.same("coupleOf(9, 1)", all.coupleOf(9, 1), 11);
        DUE.thrown("coupleOf(10, 1)", NO_SUCH, () -> all.coupleOf(10, 1));
    }

    private static void coupleWhat() {
        DUE.sentence("16: what: 0 to 5");
        ChronicleRows x = Made.family();
        int[] want = {4, 5, 1, 3, 1, 0};
        for (int what = 0; what <= 5; what++) {
            DUE.same("coupleOf(1, " + what + ")", x.coupleOf(1, what), want[what]);
        }
        DUE.thrown("coupleOf(1, -1)", WRONG, () -> x.coupleOf(1, -1));
        DUE.thrown("coupleOf(1, 6)", WRONG, () -> x.coupleOf(1, 6));
        for (int wrong : FAR) {
            DUE.thrown("coupleOf(1, " + wrong + ")", WRONG, () -> x.coupleOf(1, wrong));
            DUE.thrown("coupleOf(4, " + wrong + ")", NO_SUCH, () -> x.coupleOf(4, wrong));
        }
    }

    private static void coupleNumbers() {
        DUE.sentence("16: the lesser one, the greater one; common ancestors of both, each once");
        ChronicleRows x = descended();
        DUE.same("the lesser one of 7 and 2", x.coupleOf(1, 0), 2);
        DUE.same("the greater one of 7 and 2", x.coupleOf(1, 1), 7);
        DUE.same("children", x.coupleOf(0, 4), 6);
        DUE.same("common ancestors of 0 and 1", x.coupleOf(0, 5), 0);
        DUE.same("common ancestors of 2 and 7", x.coupleOf(1, 5), 2);
        DUE.same("common ancestors of 8 and 13", x.coupleOf(2, 5), 4);
        // 4 of 0 and 1, 5 of 1 and 2, 6 of 2 and 3; 4 and 5 have 1 in common, 4 and 6 nobody.
        ChronicleRows y = Made.withPeople(0, 0, 0, 0);
        for (int couple = 0; couple < 3; couple++) {
            y.marry(couple, couple + 1);
            y.child(couple);
        }
        y.marry(4, 5);
        y.marry(6, 4);
        DUE.same("common ancestors of half kin", y.coupleOf(3, 5), 1);
        DUE.same("common ancestors of no kin", y.coupleOf(4, 5), 0);
        DUE.same("children of a new couple", y.coupleOf(4, 4), 0);
    }

    private static void atPlaces() {
        DUE.sentence("17: NONE if the row has not so many; throws if place is below 0");
        for (int people = 0; people <= 6; people++) {
            ChronicleRows x = new ChronicleRows();
            for (int times = 0; times < people; times++) {
                x.person(1);
            }
            for (int place = 0; place <= 7; place++) {
                DUE.same("at(1, " + place + ") of " + people, x.at(1, place), place < people ? place : NONE);
            }
            DUE.same("at, far", x.at(1, Integer.MAX_VALUE), NONE);
            DUE.same("at, far", x.at(1, Integer.MAX_VALUE - 1), NONE);
            DUE.same("at, far", x.at(3, 1 << 30), NONE);
            DUE.thrown("at(1, -1)", WRONG, () -> x.at(1, -1));
            DUE.thrown("at(1, far below)", WRONG, () -> x.at(1, Integer.MIN_VALUE));
            DUE.thrown("at(-1, 0)", NO_SUCH, () -> x.at(-1, 0));
            DUE.thrown("at(4, 0)", NO_SUCH, () -> x.at(4, 0));
        }
        // The places behind the end of a row are not those of the next one.
        ChronicleRows y = Made.full();
        DUE.same("at(0, 6)", y.at(0, 6), NONE);
        DUE.same("at(3, 2)", y.at(3, 2), NONE);
        DUE.same("at(3, 1)", y.at(3, 1), 19);
        y.keep(0);
        y.goBack(0);
        y.undo();
        DUE.same("at(3, 1) behind undo", y.at(3, 1), 19);
    }

    private static void crossingsWhat() {
        DUE.sentence("18: what: 0 or 1; the crossings are the same for both");
        ChronicleRows x = Made.tangled();
        DUE.same("crossings(1, 0)", x.crossings(1, 0), 4);
        DUE.same("crossings(1, 1)", x.crossings(1, 1), 4);
        for (int row = 0; row <= 3; row++) {
            int of = row;
            DUE.thrown("crossings, -1", WRONG, () -> x.crossings(of, -1));
            DUE.thrown("crossings, 2", WRONG, () -> x.crossings(of, 2));
            for (int wrong : FAR) {
                DUE.thrown("crossings, " + wrong, WRONG, () -> x.crossings(of, wrong));
                DUE.thrown("crossings of the row " + wrong, NO_SUCH, () -> x.crossings(wrong, 0));
            }
        }
        DUE.same("crossings(0, 0), no lines lead to it", x.crossings(0, 0), 0);
        DUE.same("crossings(0, 1), no lines lead to it", x.crossings(0, 1), 0);
        DUE.same("crossings(1, 0), nothing has changed", x.crossings(1, 0), 4);
    }

    private static void crossingsOneByOne() {
        DUE.sentence("18: by rising middles, of the same one by rising places: lines of lesser middles");
        // Middles 3 3 1 3 3 from the left, of three couples: the one of middle 1 crosses two.
        ChronicleRows x = Made.withPeople(0, 0, 0, 0);
        x.marry(1, 2);
        x.marry(0, 3);
        x.marry(0, 1);
        x.child(0);
        x.child(1);
        x.child(2);
        x.child(1);
        x.child(0);
        DUE.same("pair by pair", x.crossings(1, 0), 2);
        DUE.same("one by one", x.crossings(1, 1), 2);
        // One without parents between does not count.
        ChronicleRows y = Made.withPeople(0, 0, 0);
        y.marry(1, 2);
        y.marry(0, 1);
        y.child(0);
        y.person(1);
        y.child(1);
        DUE.same("pair by pair", y.crossings(1, 0), 1);
        DUE.same("one by one", y.crossings(1, 1), 1);
    }

    private static void countWhat() {
        DUE.sentence("19: what: 0 to 8");
        ChronicleRows x = Made.tangled();
        x.marry(5, 7);
        x.person(3);
        x.marry(0, 8);
        int[] want = {9, 4, 4, 4, 4, 2, 1, 1, 6};
        for (int what = 0; what <= 8; what++) {
            DUE.same("count(" + what + ")", x.count(what), want[what]);
        }
        DUE.thrown("count(-1)", WRONG, () -> x.count(-1));
        DUE.thrown("count(9)", WRONG, () -> x.count(9));
        for (int wrong : FAR) {
            DUE.thrown("count(" + wrong + ")", WRONG, () -> x.count(wrong));
        }
    }

    private static void countNumbers() {
        DUE.sentence("19: the numbers of an empty and of a full chronicle");
        int[] wantOfFull = {20, 10, 0, 0, 0, 8, 0, 0, 6};
        ChronicleRows full = Made.full();
        for (int what = 0; what <= 8; what++) {
            DUE.same("full: count(" + what + ")", full.count(what), wantOfFull[what]);
            DUE.same("empty: count(" + what + ")", new ChronicleRows().count(what), 0);
        }
        ChronicleRows x = descended();
        DUE.same("the most lines", x.count(2), 18);
        DUE.same("couples with a common ancestor", x.count(6), 2);
        x.marry(3, 4);
        x.marry(18, 19);
        DUE.same("couples with a common ancestor, and what is refused", 10 * x.count(6) + x.count(7), 31);
        ChronicleRows half = Made.withPeople(0, 0, 0);
        half.marry(0, 1);
        half.marry(1, 2);
        half.child(0);
        half.child(1);
        half.person(1);
        half.marry(3, 4);
        half.marry(4, 5);
        DUE.same("couples with one common ancestor", half.count(6), 1);
        DUE.sentence("19: 7: what was refused so far");
        ChronicleRows y = Made.withPeople(0, 0, 1);
        DUE.same("nothing", y.count(7), 0);
        y.marry(0, 2);
        y.marry(0, 1);
        y.marry(0, 1);
        DUE.same("two couples", y.count(7), 2);
        DUE.thrown("child(1)", NO_SUCH, () -> y.child(1));
        DUE.same("an exception does not count", y.count(7), 2);
    }

    private static void leasts(ChronicleRows x, int... want) {
        for (int row = 0; row < want.length; row++) {
            DUE.same("least(" + row + ", 0)", x.least(row, 0), want[row]);
            DUE.same("least(" + row + ", 1)", x.least(row, 1), want[row]);
        }
    }

    private static void leastWhat() {
        DUE.sentence("20: what: 0 or 1; the least crossings are the same for both");
        ChronicleRows x = Made.tangled();
        leasts(x, 1, 0, 0, 0);
        for (int row = 0; row <= 3; row++) {
            int of = row;
            DUE.thrown("least, -1", WRONG, () -> x.least(of, -1));
            DUE.thrown("least, 2", WRONG, () -> x.least(of, 2));
            for (int wrong : FAR) {
                DUE.thrown("least, " + wrong, WRONG, () -> x.least(of, wrong));
                DUE.thrown("least of the row " + wrong, NO_SUCH, () -> x.least(wrong, 1));
            }
        }
    }

    private static void leastNumbers() {
        DUE.sentence("20: the least crossings, of none and of several");
        leasts(Made.knot(), 0, 2, 0, 0);
        leasts(new ChronicleRows(), 0, 0, 0, 0);
        leasts(Made.withPeople(0, 1, 2, 3), 0, 0, 0, 0);
        leasts(Made.full(), 0, 0, 0, 0);
        leasts(descended(), 0, 0, 0, 0);
        // Children of 0 and 1, of 1 and 2, of 0 and 1, of 1 and 2: either middle crosses one pair, at the least.
        ChronicleRows x = Made.withPeople(0, 0, 0);
        x.marry(0, 1);
        x.marry(1, 2);
        x.child(0);
        x.child(1);
        x.child(0);
        x.child(1);
        leasts(x, 1, 0);
        DUE.same("untangle(0)", x.untangle(0), 1);
        order(x, 0, 0, 1, 2);
    }

    private static void bestSwapNone() {
        DUE.sentence("21: NONE if none makes them less than they are");
        // Middles 5, none, 1: the one between two keeps each exchange from taking the crossing off.
        ChronicleRows x = Made.withPeople(0, 0, 0, 0);
        x.marry(2, 3);
        x.marry(0, 1);
        x.child(0);
        x.person(1);
        x.child(1);
        DUE.same("one crossing", x.count(3), 1);
        DUE.same("bestSwap", x.bestSwap(), NONE);
        x.swap(1, 0);
        DUE.same("bestSwap of two side by side", x.bestSwap(), 11);
        x.swap(1, 1);
        DUE.same("without crossings", x.bestSwap(), NONE);
        DUE.same("without lines", Made.full().bestSwap(), NONE);
        DUE.same("without people", new ChronicleRows().bestSwap(), NONE);
        DUE.same("of one person", Made.withPeople(3).bestSwap(), NONE);
    }

    private static void bestSwapLeast() {
        DUE.sentence("21: 10 times the row, and the place of the left one, together; of several the least");
        ChronicleRows x = Made.withPeople(3, 3, 3, 3, 2, 2, 2);
        x.marry(5, 6);
        x.marry(4, 5);
        x.child(0);
        x.child(1);
        DUE.same("the last place of the last row", x.bestSwap(), 34);
        // 1 and 2 exchanged make the middles of both couples 2 and 1, so that nothing crosses; so does 10.
        ChronicleRows y = Made.withPeople(0, 0, 0);
        y.marry(0, 1);
        y.marry(0, 2);
        y.child(1);
        y.child(0);
        DUE.same("of several the least", y.bestSwap(), 1);
        y.child(0);
        DUE.same("the best one, of two crossings", y.bestSwap(), 1);
        // 0 and 1 have the middle 1 at the places 0 and 1, and 2 and 0 the middle 2: exchanged, 0 0 makes 1 and 3.
        ChronicleRows z = Made.withPeople(0, 0, 0);
        z.marry(1, 2);
        z.marry(0, 2);
        z.child(0);
        z.child(1);
        DUE.same("row 0, place 0", z.bestSwap(), 0);
        // In each row middles that fall once: the row 1 comes first.
        ChronicleRows two = Made.withPeople(0, 0, 0, 0, 2, 2, 2, 2);
        two.marry(2, 3);
        two.marry(0, 1);
        two.marry(6, 7);
        two.marry(4, 5);
        for (int couple = 0; couple < 4; couple++) {
            two.child(couple);
        }
        DUE.same("of two rows the lesser one", two.bestSwap(), 10);
        two.swap(1, 0);
        DUE.same("the other one then", two.bestSwap(), 30);
    }

    private static void nearnessRange() {
        DUE.sentence("22: person: a person; other: a person");
        ChronicleRows x = Made.withPeople(0, 0, 0);
        DUE.same("nearness(2, 2), the last one", x.nearness(2, 2), 0);
        DUE.thrown("nearness(3, 0)", NO_SUCH, () -> x.nearness(3, 0));
        DUE.thrown("nearness(0, 3)", NO_SUCH, () -> x.nearness(0, 3));
        DUE.thrown("nearness(3, 3)", NO_SUCH, () -> x.nearness(3, 3));
        DUE.thrown("nearness(-1, -1)", NO_SUCH, () -> x.nearness(-1, -1));
        DUE.thrown("nearness(-1, 0)", NO_SUCH, () -> x.nearness(-1, 0));
        DUE.thrown("nearness(0, -1)", NO_SUCH, () -> x.nearness(0, -1));
        for (int wrong : FAR) {
            DUE.thrown("nearness(" + wrong + ", 0)", NO_SUCH, () -> x.nearness(wrong, 0));
            DUE.thrown("nearness(0, " + wrong + ")", NO_SUCH, () -> x.nearness(0, wrong));
        }
        DUE.thrown("nearness(0, 0) of an empty chronicle", NO_SUCH, () -> new ChronicleRows().nearness(0, 0));
        ChronicleRows all = Made.full();
        DUE.same("nearness(19, 19)", all.nearness(19, 19), 0);
        DUE.thrown("nearness(19, 20)", NO_SUCH, () -> all.nearness(19, 20));
    }

    private static void near(ChronicleRows x, int one, int other, int want) {
        DUE.same("nearness(" + one + ", " + other + ")", x.nearness(one, other), want);
        DUE.same("nearness(" + other + ", " + one + ")", x.nearness(other, one), want);
    }

    private static void nearnessNumbers() {
        DUE.sentence("22: each of both counts as an ancestor of oneself, too; NONE if there is none");
        ChronicleRows x = descended();
        near(x, 0, 0, 0);
        near(x, 19, 19, 0);
        near(x, 0, 1, NONE);
        near(x, 0, 2, 1);
        near(x, 0, 8, 2);
        near(x, 1, 19, 3);
        near(x, 2, 3, 2);
        near(x, 18, 19, 2);
        near(x, 3, 19, 4);
        near(x, 2, 19, 2);
        // Two lines of three people each, from 0, whom each has with another one: six lines at the most.
        ChronicleRows y = Made.withPeople(0, 0, 0, 1, 1, 2, 2);
        y.marry(0, 1);
        y.marry(0, 2);
        y.child(0);
        y.child(1);
        y.marry(7, 3);
        y.marry(8, 4);
        y.child(2);
        y.child(3);
        y.marry(9, 5);
        y.marry(10, 6);
        y.child(4);
        y.child(5);
        near(y, 11, 12, 6);
        near(y, 11, 10, 5);
        near(y, 9, 10, 4);
        near(y, 7, 8, 2);
        near(y, 11, 0, 3);
        near(y, 11, 2, NONE);
        near(y, 11, 6, NONE);
        near(y, 1, 2, NONE);
    }

    private static void straightShare() {
        DUE.sentence("23: 1.0 without lines; the lines that are not bent, divided by all lines");
        ChronicleRows x = new ChronicleRows();
        DUE.same("of an empty chronicle", x.straightShare(), 1.0);
        DUE.same("of a full one without lines", Made.full().straightShare(), 1.0);
        x.person(0);
        x.person(0);
        x.person(0);
        x.marry(0, 2);
        DUE.same("of a couple without children", x.straightShare(), 1.0);
        double[] shares = {0.0, 0.5, 1.0 / 3.0, 0.25, 0.2, 1.0 / 6.0};
        for (int child = 0; child < 6; child++) {
            x.child(0);
            DUE.same("of " + (child + 1) + " lines", x.straightShare(), shares[child]);
        }
        ChronicleRows y = Made.withPeople(0, 0, 0, 1);
        y.marry(0, 2);
        y.child(0);
        DUE.same("all lines are straight", y.straightShare(), 1.0);
        y.swap(1, 0);
        DUE.same("no line is straight", y.straightShare(), 0.0);
        DUE.same("of 18 lines", descended().straightShare(), 0.0);
    }

    private static void hash(String what, ChronicleRows x, int inSlots, String text) {
        DUE.same(what, x.digest(), Hash.ofAnswers(x, inSlots, text));
    }

    private static void digestOfLeastAndMost() {
        DUE.sentence("24: Computes a hash of the whole state");
        DUE.same("of an empty chronicle", new ChronicleRows().digest(), 2805231491518146382L);
        hash("of an empty chronicle", new ChronicleRows(), 0, "");
        ChronicleRows x = Made.full();
        x.keep(0);
        x.keep(1);
        String text = "~!".repeat(30);
        Made.type(x, text);
        hash("of a full chronicle", x, 3, text);
        hash("of 18 lines", descended(), 0, "");
        hash("of crossings", Made.knot(), 0, "");
    }

    private static void digestOverflows() {
        DUE.sentence("24: 31 * hash + v, in long arithmetic with overflow");
        // As numbers without bound, of which the last 64 bits are taken at the end.
        int negative = 0;
        for (int length = 0; length <= 60; length++) {
            String text = "~".repeat(length);
            ChronicleRows x = Made.withText(text);
            BigInteger hash = BigInteger.valueOf(3727);
            for (long value : Hash.values(x, 0, text)) {
                hash = hash.multiply(BigInteger.valueOf(31)).add(BigInteger.valueOf(value));
            }
            DUE.same("digest with " + length + " signs", x.digest(), hash.longValue());
            negative += x.digest() < 0 ? 1 : 0;
        }
        DUE.same("of both signs", negative > 10 && negative < 50, true);
    }

    /** Two chronicles that are alike but for one thing have unlike digests. */
    private static void digestValues() {
        DUE.sentence("24: The values are ..., in order");
        List<ChronicleRows> all = new ArrayList<>();
        for (int number = 0; number < 10; number++) {
            all.add(Made.family());
        }
        all.get(1).append('0');
        all.get(2).keep(0);
        all.get(3).keep(1);
        all.get(4).undo();
        all.get(5).marry(0, 1);
        all.get(6).swap(1, 0);
        all.get(7).person(3);
        all.get(8).append('1');
        all.get(9).child(2);
        for (int one = 0; one < all.size(); one++) {
            for (int other = 0; other < one; other++) {
                DUE.same(one + " and " + other + " are unlike", all.get(one).digest() != all.get(other).digest(), true);
            }
        }
        int[] inSlots = {0, 0, 1, 2, 0, 0, 0, 0, 0, 0};
        String[] texts = {"", "0", "", "", "", "", "", "", "1", ""};
        for (int number = 0; number < all.size(); number++) {
            hash("of chronicle " + number, all.get(number), inSlots[number], texts[number]);
        }
        DUE.same("a little share", littleShare().straightShare(), 1.0 / 17.0);
        hash("of a little share", littleShare(), 0, "");
        for (int children = 1; children <= 6; children++) {
            hash("of a share", sharing(children), 0, "");
            ChronicleRows laid = sharing(children);
            laid.byParents(1);
            hash("of another share", laid, 0, "");
        }
    }

    /** 17 lines, of which only that of 4, at the place 1 of the row 1, is straight. */
    private static ChronicleRows littleShare() {
        ChronicleRows made = Made.withPeople(0, 0, 0);
        made.marry(0, 2);
        for (int row = 0; row <= 2; row++) {
            for (int times = 0; times < 6 && made.count(0) < 20; times++) {
                made.child(row);
            }
            if (row < 2) {
                made.marry(3 + 6 * row, 4 + 6 * row);
            }
        }
        return made;
    }

    /** Up to six children of couples of the middles 5, 4 and 6. */
    private static ChronicleRows sharing(int children) {
        ChronicleRows made = Made.withPeople(0, 0, 0, 0, 0, 0);
        made.marry(0, 5);
        made.marry(1, 3);
        made.marry(2, 4);
        for (int child = 0; child < children; child++) {
            made.child(child % 3);
        }
        return made;
    }
}
