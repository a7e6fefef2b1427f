/** Chronicles that several tests begin with. */
final class Made {
    private Made() {
    }

    static ChronicleRows withPeople(int... rows) {
        ChronicleRows made = new ChronicleRows();
        for (int row : rows) {
            made.person(row);
        }
        return made;
    }

    static ChronicleRows withText(String text) {
        ChronicleRows made = new ChronicleRows();
        type(made, text);
        return made;
    }

    static void type(ChronicleRows into, String text) {
        for (int index = 0; index < text.length(); index++) {
            into.append(text.charAt(index));
        }
    }

    /**
     * Row 0: 0 1 2 3; couples 0: 0 and 1, middle 1; 1: 2 and 3, middle 5; 2: 0
     * and 2, middle 2. Row 1: 4 of couple 1, 5 of couple 0, 6 of couple 2, 7
     * of couple 0, so the middles from the left are 5 1 2 1: 4 crossings.
     */
    static ChronicleRows tangled() {
        ChronicleRows made = withPeople(0, 0, 0, 0);
        made.marry(0, 1);
        made.marry(3, 2);
        made.marry(2, 0);
        made.child(1);
        made.child(0);
        made.child(2);
        made.child(0);
        return made;
    }

    /**
     * Row 0: 0 and 1, couple 0, and 2; couple 2: 1 and 2. Row 1: 3, 4 of
     * couple 0 and 5 without parents; couple 1: 4 and 5; 9 of couple 2. Row 2:
     * 6 of couple 1, and 7; couple 3: 6 and 7. Row 3: 8 of couple 3.
     */
    static ChronicleRows family() {
        ChronicleRows made = withPeople(0, 0, 0);
        made.marry(0, 1);
        made.child(0);
        made.child(0);
        made.person(1);
        made.marry(5, 4);
        made.marry(1, 2);
        made.child(1);
        made.person(2);
        made.marry(6, 7);
        made.child(3);
        made.child(2);
        return made;
    }

    /**
     * Row 0: 0 and 1, couple 0; 2 and 3, couple 1. Row 1: 4 and 5 of the
     * middle 1, who are couple 3; 6 and 7 of the middle 5, who are couple 2.
     */
    static ChronicleRows twoFamilies() {
        ChronicleRows made = withPeople(0, 0, 0, 0);
        made.marry(0, 1);
        made.marry(2, 3);
        for (int child = 0; child < 4; child++) {
            made.child(child / 2);
        }
        made.marry(6, 7);
        made.marry(4, 5);
        return made;
    }

    /**
     * From the row 1 of two families: three children of 6 and 7, then two of 4
     * and 5. With 4 and 5 to the left 6 pairs from it cross, with 6 and 7 to
     * the left 4 pairs to it; as 4 6 7 5 both couples have the middle 3, and
     * only 5 crosses 6 and 7: 2, and no order has less.
     */
    static ChronicleRows knot() {
        ChronicleRows made = twoFamilies();
        for (int child = 0; child < 5; child++) {
            made.child(child < 3 ? 2 : 3);
        }
        return made;
    }

    /** 20 people, and 10 couples of rows 0 and 1. */
    static ChronicleRows full() {
        ChronicleRows made = withPeople(0, 0, 0, 0, 0, 0, 1, 1, 1, 1, 1, 1, 2, 2, 2, 2, 2, 2, 3, 3);
        for (int person = 0; person < 5; person++) {
            made.marry(person, person + 1);
            made.marry(person + 6, person + 7);
        }
        return made;
    }
}
