import java.util.Set;
import java.util.TreeSet;

/** The boundaries that the document names under "Terms", for people, couples, lines and orders: a part of its own for each sentence. */
final class TermBoundariesTest {
    private static final Class<IndexOutOfBoundsException> NO_SUCH = IndexOutOfBoundsException.class;
    private static final Class<IllegalArgumentException> WRONG = IllegalArgumentException.class;
    private static final int NONE = -1;
    private static final int[] WRONG_ROWS = {-1, 4, 5, Integer.MIN_VALUE, Integer.MAX_VALUE};

    private static final Due DUE = new Due();

    private TermBoundariesTest() {
    }

    public static void main(String[] args) {
        DUE.part(TermBoundariesTest::calls);
        DUE.part(TermBoundariesTest::rows);
        DUE.part(TermBoundariesTest::sixOfARow);
        DUE.part(TermBoundariesTest::sixOfARowAsChildren);
        DUE.part(TermBoundariesTest::places);
        DUE.part(TermBoundariesTest::numbersOfPeople);
        DUE.part(TermBoundariesTest::twentyPeople);
        DUE.part(TermBoundariesTest::nobodyGoes);
        DUE.part(TermBoundariesTest::tenCouples);
        DUE.part(TermBoundariesTest::numbersOfCouples);
        DUE.part(TermBoundariesTest::coupleOfOneRow);
        DUE.part(TermBoundariesTest::coupleOnce);
        DUE.part(TermBoundariesTest::doubles);
        DUE.part(TermBoundariesTest::parents);
        DUE.part(TermBoundariesTest::middles);
        DUE.part(TermBoundariesTest::lines);
        DUE.part(TermBoundariesTest::crossedLines);
        DUE.part(TermBoundariesTest::notCrossedLines);
        DUE.part(TermBoundariesTest::bentLines);
        DUE.part(TermBoundariesTest::byParents);
        DUE.part(TermBoundariesTest::byParentsOfSameMiddle);
        DUE.part(TermBoundariesTest::byParentsThoseWithout);
        DUE.part(TermBoundariesTest::leastToAndFrom);
        DUE.part(TermBoundariesTest::leastOfAnyOrder);
        DUE.end();
    }

    private static ChronicleRows rowOfSix(int row) {
        return Made.withPeople(row, row, row, row, row, row);
    }

    private static void order(ChronicleRows of, int row, int... people) {
        for (int place = 0; place <= 6; place++) {
            int want = place < people.length ? people[place] : NONE;
            DUE.same("at(" + row + ", " + place + ")", of.at(row, place), want);
        }
        for (int place = 0; place < people.length; place++) {
            DUE.same("the place of " + people[place], of.personOf(people[place], 1), place);
        }
    }

    private static void calls() {
        DUE.sentence("at most 512 calls");
        ChronicleRows x = new ChronicleRows();
        for (int times = 0; times < 6; times++) {
            x.person(3);
        }
        for (int times = 7; times <= 511; times++) {
            x.person(3);
        }
        DUE.same("the 512th call", x.count(7), 505);
    }

    private static void rows() {
        DUE.sentence("There are 4 rows, numbered from 0");
        ChronicleRows x = Made.withPeople(0, 0, 1, 1, 2, 2, 3, 3);
        for (int row = 0; row <= 3; row++) {
            DUE.same("personOf", x.personOf(2 * row, 0), row);
            DUE.same("at", x.at(row, 1), 2 * row + 1);
            DUE.same("swap", x.swap(row, 0), 100);
            DUE.same("at after swap", x.at(row, 1), 2 * row);
            DUE.same("byParents", x.byParents(row), 0);
            DUE.same("crossings", x.crossings(row, 0), 0);
            DUE.same("crossings", x.crossings(row, 1), 0);
            DUE.same("least", x.least(row, 0), 0);
            DUE.same("least", x.least(row, 1), 0);
            DUE.same("untangle", x.untangle(row), 0);
            DUE.same("at after untangle", x.at(row, 1), 2 * row + 1);
            DUE.same("person", x.person(row), 8 + row);
        }
        for (int row : WRONG_ROWS) {
            DUE.thrown("person(" + row + ")", NO_SUCH, () -> x.person(row));
            DUE.thrown("swap(" + row + ", 0)", NO_SUCH, () -> x.swap(row, 0));
            DUE.thrown("byParents(" + row + ")", NO_SUCH, () -> x.byParents(row));
            DUE.thrown("untangle(" + row + ")", NO_SUCH, () -> x.untangle(row));
            DUE.thrown("at(" + row + ", 0)", NO_SUCH, () -> x.at(row, 0));
            DUE.thrown("crossings(" + row + ", 0)", NO_SUCH, () -> x.crossings(row, 0));
            DUE.thrown("crossings(" + row + ", 1)", NO_SUCH, () -> x.crossings(row, 1));
            DUE.thrown("least(" + row + ", 0)", NO_SUCH, () -> x.least(row, 0));
            DUE.thrown("least(" + row + ", 1)", NO_SUCH, () -> x.least(row, 1));
        }
    }

    private static void sixOfARow() {
        DUE.sentence("rows, each of at most 6 people");
        for (int row = 0; row <= 3; row++) {
            ChronicleRows x = new ChronicleRows();
            for (int number = 0; number <= 5; number++) {
                DUE.same("person(" + row + ")", x.person(row), number);
            }
            DUE.same("person(" + row + "), the seventh", x.person(row), NONE);
            order(x, row, 0, 1, 2, 3, 4, 5);
            for (int other = 0; other <= 3; other++) {
                if (other != row) {
                    order(x, other);
                }
            }
            DUE.same("people", x.count(0), 6);
            DUE.same("person of another row", x.person((row + 1) % 4), 6);
            Made.type(x, row + ";0");
            DUE.same("run, the seventh", x.run(), 0);
            DUE.same("people then", x.count(0), 7);
        }
    }

    private static void sixOfARowAsChildren() {
        DUE.sentence("rows, each of at most 6 people, children too");
        for (int row = 0; row <= 2; row++) {
            ChronicleRows x = Made.withPeople(row, row);
            x.marry(0, 1);
            for (int number = 2; number <= 7; number++) {
                DUE.same("child(0)", x.child(0), number);
            }
            DUE.same("child(0), the seventh", x.child(0), NONE);
            order(x, row + 1, 2, 3, 4, 5, 6, 7);
            DUE.same("person behind six children", x.person(row + 1), NONE);
            Made.type(x, "^0");
            DUE.same("run, the seventh", x.run(), 0);
            DUE.same("people", x.count(0), 8);
        }
        ChronicleRows mixed = Made.withPeople(0, 0, 1, 1, 1, 1, 1);
        mixed.marry(0, 1);
        DUE.same("child(0) behind five people", mixed.child(0), 7);
        DUE.same("child(0) behind six people", mixed.child(0), NONE);
        order(mixed, 1, 2, 3, 4, 5, 6, 7);
    }

    private static void places() {
        DUE.sentence("in an order, from the left; the place of a person is told from 0");
        ChronicleRows x = Made.withPeople(1, 0, 1, 0, 0, 0, 0, 0);
        x.marry(1, 3);
        x.child(0);
        order(x, 0, 1, 3, 4, 5, 6, 7);
        order(x, 1, 0, 2, 8);
        x.swap(0, 4);
        x.swap(0, 0);
        order(x, 0, 3, 1, 4, 5, 7, 6);
        order(x, 1, 0, 2, 8);
    }

    private static void numbersOfPeople() {
        DUE.sentence("People are numbered from 0 in the order in which they came");
        ChronicleRows x = new ChronicleRows();
        DUE.same("the first one", x.person(2), 0);
        DUE.same("the second one", x.person(0), 1);
        DUE.same("the third one", x.person(0), 2);
        x.marry(2, 1);
        DUE.same("a child", x.child(0), 3);
        DUE.same("behind a child", x.person(3), 4);
        Made.type(x, "1;^0");
        x.run();
        DUE.same("behind a run", x.person(3), 7);
        DUE.same("the row of 5", x.personOf(5, 0), 1);
        DUE.same("the parents of 6", x.personOf(6, 2), 0);
        x.undo();
        DUE.same("behind undo", x.person(0), 7);
        DUE.same("the row of 7", x.personOf(7, 0), 0);
    }

    private static void twentyPeople() {
        DUE.sentence("People, at most 20");
        ChronicleRows x = Made.withPeople(0, 0, 0, 0, 0, 1, 1, 1, 1, 1, 2, 2, 2, 2, 2, 3, 3, 3, 3);
        x.marry(10, 11);
        DUE.same("people", x.count(0), 19);
        x.keep(0);
        DUE.same("person, the 20th", x.person(3), 19);
        DUE.same("personOf(19, 1)", x.personOf(19, 1), 4);
        for (int row = 0; row <= 3; row++) {
            DUE.same("person(" + row + "), the 21st", x.person(row), NONE);
            DUE.same("at(" + row + ", 5)", x.at(row, 5), NONE);
        }
        DUE.same("child, the 21st", x.child(0), NONE);
        x.goBack(0);
        DUE.same("child, the 20th", x.child(0), 19);
        DUE.same("child, the 21st", x.child(0), NONE);
        DUE.same("person, the 21st", x.person(0), NONE);
        DUE.same("people", x.count(0), 20);
        x.goBack(0);
        Made.type(x, "3;3");
        DUE.same("run, the 20th and the 21st", x.run(), 1);
        Made.type(x, "^0");
        DUE.same("run, the 21st", x.run(), 0);
        DUE.same("people", x.count(0), 20);
        DUE.thrown("personOf(20, 0)", NO_SUCH, () -> x.personOf(20, 0));
    }

    private static Set<Integer> peopleOf(ChronicleRows x, int row) {
        Set<Integer> found = new TreeSet<>();
        for (int place = 0; place < 6; place++) {
            found.add(x.at(row, place));
        }
        return found;
    }

    private static void nobodyGoes() {
        DUE.sentence("nobody ever goes");
        ChronicleRows x = Made.family();
        Set<Integer> before = peopleOf(x, 1);
        x.swap(1, 2);
        DUE.same("after swap", peopleOf(x, 1), before);
        x.byParents(1);
        DUE.same("after byParents", peopleOf(x, 1), before);
        x.swap(1, 0);
        x.untangle(1);
        DUE.same("after untangle", peopleOf(x, 1), before);
        Made.type(x, "^0;0;+9&9");
        x.run();
        before.add(10);
        DUE.same("after run", peopleOf(x, 1), before);
        DUE.same("people", x.count(0), 12);
    }

    private static void tenCouples() {
        DUE.sentence("There are at most 10 couples");
        ChronicleRows x = Made.withPeople(0, 0, 0, 0, 0, 0, 1, 1, 1, 1, 1, 1, 2, 2);
        for (int couple = 0; couple < 5; couple++) {
            DUE.same("marry in row 0", x.marry(couple, couple + 1), 10 + couple);
        }
        for (int couple = 5; couple < 9; couple++) {
            DUE.same("marry in row 1", x.marry(couple + 1, couple + 2), 10 + couple);
        }
        DUE.same("couples", x.count(1), 9);
        x.keep(1);
        DUE.same("marry, the tenth", x.marry(12, 13), 19);
        DUE.same("couples", x.count(1), 10);
        DUE.same("marry, the eleventh", x.marry(0, 5), 1);
        DUE.same("couples", x.count(1), 10);
        DUE.same("the tenth one", x.coupleOf(9, 1), 13);
        DUE.same("a child of the tenth one", x.child(9), 14);
        DUE.thrown("coupleOf(10, 0)", NO_SUCH, () -> x.coupleOf(10, 0));
        DUE.thrown("child(10)", NO_SUCH, () -> x.child(10));
        x.goBack(1);
        Made.type(x, "+12&13;+0&5;3");
        DUE.same("run, the tenth and the eleventh", x.run(), 1);
        DUE.same("couples", x.count(1), 10);
    }

    private static void numbersOfCouples() {
        DUE.sentence("couples, numbered from 0 in the order in which they came");
        ChronicleRows x = Made.withPeople(1, 1, 0, 0, 2, 2, 0);
        DUE.same("the first one", x.marry(4, 5), 10);
        DUE.same("refused", x.marry(4, 5), 3);
        DUE.same("the second one", x.marry(3, 2), 11);
        Made.type(x, "+6&3");
        x.run();
        DUE.same("behind a run", x.marry(1, 0), 13);
        int[][] couples = {{4, 5}, {2, 3}, {3, 6}, {0, 1}};
        for (int couple = 0; couple < couples.length; couple++) {
            DUE.same("the lesser one of " + couple, x.coupleOf(couple, 0), couples[couple][0]);
            DUE.same("the greater one of " + couple, x.coupleOf(couple, 1), couples[couple][1]);
        }
        x.undo();
        DUE.same("behind undo", x.marry(0, 1), 13);
    }

    private static void coupleOfOneRow() {
        DUE.sentence("A couple is of two unlike people of the same row, 0 to 2");
        ChronicleRows x = Made.withPeople(0, 0, 1, 1, 2, 2, 3, 3);
        for (int one = 0; one < 8; one++) {
            for (int other = 0; other < 8; other++) {
                int person = one;
                int beside = other;
                if (one == other) {
                    DUE.thrown("marry(" + one + ", " + one + ")", WRONG, () -> x.marry(person, beside));
                } else if (one / 2 != other / 2 || one / 2 == 3) {
                    DUE.same("marry(" + one + ", " + other + ")", x.marry(one, other), 2);
                }
            }
        }
        DUE.same("couples", x.count(1), 0);
        DUE.same("marry in row 0", x.marry(0, 1), 10);
        DUE.same("marry in row 1", x.marry(3, 2), 11);
        DUE.same("marry in row 2", x.marry(4, 5), 12);
        for (int row = 0; row <= 2; row++) {
            DUE.same("the row of a couple", x.coupleOf(row, 2), row);
        }
    }

    private static void coupleOnce() {
        DUE.sentence("the same two can be a couple once");
        ChronicleRows x = Made.withPeople(0, 0, 0, 0);
        DUE.same("marry(2, 1)", x.marry(2, 1), 10);
        DUE.same("marry(2, 1) again", x.marry(2, 1), 3);
        DUE.same("marry(1, 2)", x.marry(1, 2), 3);
        DUE.same("marry(0, 1)", x.marry(0, 1), 11);
        DUE.same("marry(2, 3)", x.marry(2, 3), 12);
        DUE.same("marry(1, 2), as doubles", x.marry(1, 2), 3);
        DUE.same("couples", x.count(1), 3);
        Made.type(x, "+1&2");
        DUE.same("run", x.run(), 0);
        DUE.same("marry(0, 3)", x.marry(0, 3), 13);
        x.undo();
        DUE.same("marry(3, 0) behind undo", x.marry(3, 0), 13);
    }

    private static void doubles() {
        DUE.sentence("A person can be in two couples at most; who is in two is a double");
        ChronicleRows x = Made.withPeople(0, 0, 0, 0);
        DUE.same("in no couple", x.personOf(0, 3), 0);
        x.marry(0, 1);
        DUE.same("in one couple", x.personOf(0, 3), 1);
        DUE.same("no doubles", x.count(5), 0);
        DUE.same("a second couple", x.marry(2, 0), 11);
        DUE.same("in two couples", x.personOf(0, 3), 2);
        DUE.same("doubles", x.count(5), 1);
        DUE.same("a third couple", x.marry(0, 3), 4);
        DUE.same("a third couple, the other way round", x.marry(3, 0), 4);
        DUE.same("in two couples still", x.personOf(0, 3), 2);
        DUE.same("in no couple", x.personOf(3, 3), 0);
        DUE.same("marry(1, 2)", x.marry(1, 2), 12);
        DUE.same("all three are doubles", x.count(5), 3);
        DUE.same("marry(3, 1)", x.marry(3, 1), 4);
        Made.type(x, "+1&3");
        DUE.same("run", x.run(), 0);
        DUE.same("doubles", x.count(5), 3);
        // Of the row 2 the greatest number of a double.
        ChronicleRows y = Made.withPeople(0, 0, 0, 0, 0, 0, 1, 1, 1, 1, 1, 1, 3, 3, 3, 3, 3, 2, 2, 2);
        y.marry(19, 18);
        y.marry(19, 17);
        DUE.same("the last one is a double", y.count(5), 1);
        DUE.same("the last one is in two", y.personOf(19, 3), 2);
    }

    private static void parents() {
        DUE.sentence("the child is of the row behind that of the couple");
        for (int row = 0; row <= 2; row++) {
            ChronicleRows x = Made.withPeople(3, row, row);
            x.marry(1, 2);
            DUE.same("child", x.child(0), 3);
            DUE.same("the row of a child", x.personOf(3, 0), row + 1);
            DUE.same("the place of a child, at the end", x.personOf(3, 1), row == 2 ? 1 : 0);
            DUE.same("the couple of a child", x.personOf(3, 2), 0);
        }
        DUE.sentence("A person without parents is of any row");
        ChronicleRows y = Made.withPeople(0, 1, 2, 3);
        for (int row = 0; row <= 3; row++) {
            DUE.same("the row", y.personOf(row, 0), row);
            DUE.same("the parents", y.personOf(row, 2), NONE);
        }
    }

    private static void middles() {
        DUE.sentence("The middle of a couple is the sum of the places of both");
        ChronicleRows x = rowOfSix(2);
        x.marry(0, 1);
        x.marry(4, 5);
        x.marry(5, 0);
        DUE.same("the least middle", x.coupleOf(0, 3), 1);
        DUE.same("the greatest middle", x.coupleOf(1, 3), 9);
        DUE.same("of both ends", x.coupleOf(2, 3), 5);
        x.swap(2, 4);
        DUE.same("the greatest middle, exchanged", x.coupleOf(1, 3), 9);
        DUE.same("of both ends, exchanged", x.coupleOf(2, 3), 4);
        x.swap(2, 0);
        DUE.same("of both ends, exchanged again", x.coupleOf(2, 3), 5);
    }

    private static void lines() {
        DUE.sentence("From the middle of its parents a line leads to each child");
        ChronicleRows x = Made.withPeople(0, 0);
        x.marry(0, 1);
        DUE.same("without children", x.count(2), 0);
        DUE.same("children", x.coupleOf(0, 4), 0);
        int lines = 0;
        for (int row = 0; row <= 2; row++) {
            for (int times = 0; times < 6; times++) {
                x.child(row);
                lines++;
                DUE.same("lines", x.count(2), lines);
                DUE.same("children of a couple", x.coupleOf(row, 4), times + 1);
            }
            x.marry(2 + 6 * row, 3 + 6 * row);
        }
        DUE.same("people", x.count(0), 20);
        DUE.same("the most lines", x.count(2), 18);
    }

    /** Six children in a row, each of a lesser middle than the one to the left of it. */
    private static ChronicleRows falling(int row) {
        ChronicleRows made = rowOfSix(row);
        int[][] couples = {{4, 5}, {3, 5}, {2, 4}, {1, 3}, {0, 2}, {0, 1}};
        for (int couple = 0; couple < 6; couple++) {
            made.marry(couples[couple][0], couples[couple][1]);
            made.child(couple);
        }
        return made;
    }

    private static void crossedLines() {
        DUE.sentence("Two lines cross, if the middle of the one is less, and the place of its child is greater");
        ChronicleRows x = Made.withPeople(1, 1, 1);
        x.marry(1, 2);
        x.marry(0, 2);
        x.child(0);
        DUE.same("one line", x.crossings(2, 0), 0);
        x.child(1);
        DUE.same("middles 3 2", x.crossings(2, 0), 1);
        DUE.same("middles 3 2, one by one", x.crossings(2, 1), 1);
        x.swap(2, 0);
        DUE.same("middles 2 3", x.crossings(2, 0), 0);
        DUE.same("middles 2 3, one by one", x.crossings(2, 1), 0);
        for (int row = 0; row <= 2; row++) {
            ChronicleRows y = falling(row);
            DUE.same("the most crossings of a row", y.crossings(row + 1, 0), 15);
            DUE.same("the most crossings of a row, one by one", y.crossings(row + 1, 1), 15);
            DUE.same("all crossings", y.count(3), 15);
        }
    }

    private static void notCrossedLines() {
        DUE.sentence("Two lines of the same middle do not cross");
        ChronicleRows x = Made.withPeople(0, 0, 0, 0);
        x.marry(0, 3);
        x.marry(1, 2);
        for (int child = 0; child < 6; child++) {
            x.child(child % 2);
        }
        DUE.same("crossings, pair by pair", x.crossings(1, 0), 0);
        DUE.same("crossings, one by one", x.crossings(1, 1), 0);
        DUE.same("least(1, 0)", x.least(1, 0), 0);
        DUE.same("least(1, 1)", x.least(1, 1), 0);
        DUE.same("untangle(1)", x.untangle(1), 0);
        order(x, 1, 4, 5, 6, 7, 8, 9);
        DUE.sentence("Two lines between the same two rows cross; others do not");
        // Middle 5 to the place 0 of the row 1, and 1 to the place 1 of the row 2.
        ChronicleRows y = Made.withPeople(0, 0, 0, 0, 1, 1, 2);
        y.marry(2, 3);
        y.marry(4, 5);
        y.child(1);
        y.child(0);
        y.swap(1, 1);
        y.swap(1, 0);
        DUE.same("the place of a child", y.personOf(8, 1), 0);
        DUE.same("the middles", 10 * y.coupleOf(0, 3) + y.coupleOf(1, 3), 53);
        DUE.same("all crossings", y.count(3), 0);
    }

    private static void bent(ChronicleRows x, int want) {
        DUE.same("bent lines, middle " + x.coupleOf(0, 3), x.count(4), want);
    }

    private static void bentLines() {
        DUE.sentence("A line is bent, if the middle is not twice the place of the child");
        ChronicleRows x = Made.withPeople(0, 0, 0);
        x.marry(0, 2);
        DUE.same("without lines", x.count(4), 0);
        x.child(0);
        bent(x, 1);
        x.child(0);
        bent(x, 1);
        x.child(0);
        bent(x, 2);
        x.swap(0, 0);
        bent(x, 3);
        x.swap(0, 0);
        x.swap(0, 1);
        DUE.same("middle 1: half of it is no place", x.coupleOf(0, 3), 1);
        bent(x, 3);
        ChronicleRows y = rowOfSix(0);
        y.marry(3, 5);
        for (int times = 0; times < 6; times++) {
            y.child(0);
        }
        DUE.same("middle 8: the place 4", y.count(4), 5);
        y.swap(0, 3);
        DUE.same("middle 9: no place", y.count(4), 6);
        ChronicleRows z = Made.withPeople(0, 0, 0, 1);
        z.marry(0, 2);
        z.child(0);
        bent(z, 0);
    }

    private static void byParents() {
        DUE.sentence("first those with parents, by the middles of these");
        ChronicleRows x = falling(0);
        DUE.same("byParents(1), all six", x.byParents(1), 6);
        order(x, 1, 11, 10, 9, 8, 7, 6);
        DUE.same("byParents(1) again", x.byParents(1), 0);
        // Middles that are beside each other: 8 before 9, and 1 before 2.
        ChronicleRows y = rowOfSix(0);
        y.marry(4, 5);
        y.marry(3, 5);
        y.marry(0, 2);
        y.marry(0, 1);
        for (int couple = 0; couple < 4; couple++) {
            y.child(couple);
        }
        y.byParents(1);
        order(y, 1, 9, 8, 7, 6);
    }

    private static void byParentsOfSameMiddle() {
        DUE.sentence("of several by the places as they were");
        ChronicleRows x = Made.withPeople(0, 0, 0, 0);
        x.marry(1, 2);
        x.marry(0, 3);
        x.marry(0, 1);
        for (int child = 0; child < 6; child++) {
            x.child(child % 3);
        }
        // Couples 0 and 1 have the middle 3, couple 2 has 1: 6 and 9 are of it.
        DUE.same("byParents(1)", x.byParents(1), 6);
        order(x, 1, 6, 9, 4, 5, 7, 8);
        x.swap(1, 0);
        x.swap(1, 2);
        x.swap(1, 4);
        DUE.same("byParents(1), by the places, not by the numbers", x.byParents(1), 0);
        order(x, 1, 9, 6, 5, 4, 8, 7);
    }

    private static void byParentsThoseWithout() {
        DUE.sentence("then those without, by the places as they were");
        ChronicleRows x = Made.withPeople(1, 0, 0, 0, 0, 0, 0, 1, 1);
        x.marry(5, 6);
        x.child(0);
        x.child(0);
        x.swap(1, 1);
        // 0 8 7 are without parents; the middle of the others is the greatest there can be.
        DUE.same("byParents(1)", x.byParents(1), 5);
        order(x, 1, 9, 10, 0, 8, 7);
        DUE.same("byParents(0), all without", x.byParents(0), 0);
        x.swap(0, 0);
        DUE.same("byParents(0), all without, exchanged", x.byParents(0), 0);
        order(x, 0, 2, 1, 3, 4, 5, 6);
    }

    private static void leastToAndFrom() {
        DUE.sentence("that the lines to it and the lines from it can have, together");
        // From the row 1 a child of 6 and 7, then one of 4 and 5.
        ChronicleRows x = Made.twoFamilies();
        x.child(2);
        x.child(3);
        DUE.same("crossings to it", x.crossings(1, 0), 0);
        DUE.same("crossings from it", x.crossings(2, 0), 1);
        // No crossing to it leaves the one from it; as 4 6 7 5 both have one middle, but two lines to it cross.
        leastBothWays(x, 1, 1);
        DUE.same("untangle(1)", x.untangle(1), 1);
        order(x, 1, 4, 5, 6, 7);
        leastBothWays(x, 0, 0);
        leastBothWays(x, 2, 0);
        leastBothWays(x, 3, 0);
    }

    private static void leastBothWays(ChronicleRows x, int row, int want) {
        DUE.same("least(" + row + ", 0)", x.least(row, 0), want);
        DUE.same("least(" + row + ", 1)", x.least(row, 1), want);
    }

    private static void leastOfAnyOrder() {
        DUE.sentence("if its people are laid in any order, while all other rows stay");
        for (int row = 0; row <= 2; row++) {
            ChronicleRows x = falling(row);
            // Only the very last of the 720 orders has no crossing.
            leastBothWays(x, row + 1, 0);
            DUE.same("untangle", x.untangle(row + 1), 0);
            order(x, row + 1, 11, 10, 9, 8, 7, 6);
            order(x, row, 0, 1, 2, 3, 4, 5);
            leastBothWays(x, 3, 0);
        }
        ChronicleRows y = falling(1);
        int before = y.crossings(2, 0);
        leastBothWays(y, 1, 0);
        order(y, 1, 0, 1, 2, 3, 4, 5);
        order(y, 2, 6, 7, 8, 9, 10, 11);
        DUE.same("crossings stay", y.crossings(2, 0), before);
    }
}
