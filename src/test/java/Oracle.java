import java.util.ArrayList;
import java.util.List;
import java.util.Set;
import java.util.TreeSet;
import java.util.regex.Pattern;

/**
 * The document once more, written as its sentences stand and as slow as that
 * is: lists, sets, all orders, all pairs of lines. It shares no code with the
 * program.
 */
final class Oracle {
    private static final Pattern CHRONICLE = chronicle();

    /** What a snapshot holds. */
    private static final class World {
        final List<Integer> rowOf = new ArrayList<>();
        final List<Integer> parentsOf = new ArrayList<>();
        final List<int[]> couples = new ArrayList<>();
        final List<List<Integer>> rows = new ArrayList<>();
        int refused;

        World copy() {
            World copy = new World();
            copy.rowOf.addAll(rowOf);
            copy.parentsOf.addAll(parentsOf);
            copy.couples.addAll(couples);
            for (List<Integer> row : rows) {
                copy.rows.add(new ArrayList<>(row));
            }
            copy.refused = refused;
            return copy;
        }

        int middle(int couple) {
            int[] both = couples.get(couple);
            List<Integer> row = rows.get(rowOf.get(both[0]));
            return row.indexOf(both[0]) + row.indexOf(both[1]);
        }

        /** The lines to a row: the middle and the place of the child of each. */
        List<int[]> linesTo(int row) {
            List<int[]> lines = new ArrayList<>();
            if (row <= 3) {
                for (int person : rows.get(row)) {
                    if (parentsOf.get(person) != -1) {
                        lines.add(new int[] {middle(parentsOf.get(person)), rows.get(row).indexOf(person)});
                    }
                }
            }
            return lines;
        }

        int crossingsTo(int row) {
            int crossings = 0;
            List<int[]> lines = linesTo(row);
            for (int[] one : lines) {
                for (int[] other : lines) {
                    if (one[0] < other[0] && one[1] > other[1]) {
                        crossings++;
                    }
                }
            }
            return crossings;
        }

        int allCrossings() {
            return crossingsTo(0) + crossingsTo(1) + crossingsTo(2) + crossingsTo(3);
        }

        Set<Integer> parentsAsSet(int person) {
            Set<Integer> parents = new TreeSet<>();
            if (parentsOf.get(person) != -1) {
                parents.add(couples.get(parentsOf.get(person))[0]);
                parents.add(couples.get(parentsOf.get(person))[1]);
            }
            return parents;
        }

        Set<Integer> ancestors(int person) {
            Set<Integer> ancestors = new TreeSet<>();
            for (int parent : parentsAsSet(person)) {
                ancestors.add(parent);
                ancestors.addAll(ancestors(parent));
            }
            return ancestors;
        }

        int descendants(int person) {
            int found = 0;
            for (int other = 0; other < rowOf.size(); other++) {
                if (ancestors(other).contains(person)) {
                    found++;
                }
            }
            return found;
        }

        Set<Integer> commonAncestors(int one, int other) {
            Set<Integer> common = ancestors(one);
            common.retainAll(ancestors(other));
            return common;
        }

        /** The lines up to an ancestor or to oneself; 1000 if it is none. */
        int linesUp(int person, int to) {
            if (person == to) {
                return 0;
            }
            int fewest = 1000;
            for (int parent : parentsAsSet(person)) {
                fewest = Math.min(fewest, 1 + linesUp(parent, to));
            }
            return Math.min(fewest, 1000);
        }

        int couplesWith(int person) {
            int found = 0;
            for (int[] both : couples) {
                if (both[0] == person || both[1] == person) {
                    found++;
                }
            }
            return found;
        }

        int childrenOf(int couple) {
            int found = 0;
            for (int parents : parentsOf) {
                if (parents == couple) {
                    found++;
                }
            }
            return found;
        }
    }

    private World world = new World();
    private final World[] slots = new World[2];
    private final List<World> saved = new ArrayList<>();
    private String text = "";

    Oracle() {
        for (int row = 0; row < 4; row++) {
            world.rows.add(new ArrayList<>());
        }
    }

    private static Pattern chronicle() {
        StringBuilder number = new StringBuilder("0");
        for (int n = 1; n < 20; n++) {
            number.append('|').append(n);
        }
        String item = "([0123]|\\+(" + number + ")&(" + number + ")|\\^[0123456789])";
        return Pattern.compile(item + "(;" + item + ")*");
    }

    private void save() {
        saved.add(world.copy());
        if (saved.size() > 6) {
            saved.remove(0);
        }
    }

    private void needRow(int row) {
        if (row < 0 || row > 3) {
            throw new IndexOutOfBoundsException();
        }
    }

    private void needPerson(int person) {
        if (person < 0 || person >= world.rowOf.size()) {
            throw new IndexOutOfBoundsException();
        }
    }

    private void needCouple(int couple) {
        if (couple < 0 || couple >= world.couples.size()) {
            throw new IndexOutOfBoundsException();
        }
    }

    private void needWhat(int what, int greatest) {
        if (what < 0 || what > greatest) {
            throw new IllegalArgumentException();
        }
    }

    private int come(int row, int parents) {
        if (world.rows.get(row).size() == 6 || world.rowOf.size() == 20) {
            world.refused++;
            return -1;
        }
        int person = world.rowOf.size();
        world.rowOf.add(row);
        world.parentsOf.add(parents);
        world.rows.get(row).add(person);
        return person;
    }

    private int comeAsChild(int couple) {
        return come(world.rowOf.get(world.couples.get(couple)[0]) + 1, couple);
    }

    private int become(int person, int other) {
        int reason = 0;
        if (world.couplesWith(person) == 2 || world.couplesWith(other) == 2) {
            reason = 4;
        }
        for (int[] both : world.couples) {
            if (both[0] == person && both[1] == other || both[0] == other && both[1] == person) {
                reason = 3;
            }
        }
        if (!world.rowOf.get(person).equals(world.rowOf.get(other)) || world.rowOf.get(person) == 3) {
            reason = 2;
        }
        if (world.couples.size() == 10) {
            reason = 1;
        }
        if (reason != 0) {
            world.refused++;
            return reason;
        }
        world.couples.add(new int[] {Math.min(person, other), Math.max(person, other)});
        return world.couples.size() + 9;
    }

    int person(int row) {
        needRow(row);
        save();
        return come(row, -1);
    }

    int marry(int person, int other) {
        needPerson(person);
        needPerson(other);
        if (person == other) {
            throw new IllegalArgumentException();
        }
        save();
        return become(person, other);
    }

    int child(int couple) {
        needCouple(couple);
        save();
        return comeAsChild(couple);
    }

    int swap(int row, int place) {
        needRow(row);
        List<Integer> order = world.rows.get(row);
        if (place < 0 || place >= order.size() || (long) place + 1 >= order.size()) {
            throw new IllegalArgumentException();
        }
        save();
        int before = world.allCrossings();
        order.add(place, order.remove(place + 1));
        return 100 + world.allCrossings() - before;
    }

    int byParents(int row) {
        needRow(row);
        save();
        List<Integer> old = new ArrayList<>(world.rows.get(row));
        List<Integer> laid = new ArrayList<>();
        for (int middle = 0; middle < 12; middle++) {
            for (int person : old) {
                if (world.parentsOf.get(person) != -1 && world.middle(world.parentsOf.get(person)) == middle) {
                    laid.add(person);
                }
            }
        }
        for (int person : old) {
            if (world.parentsOf.get(person) == -1) {
                laid.add(person);
            }
        }
        world.rows.set(row, laid);
        int moved = 0;
        for (int person : old) {
            if (old.indexOf(person) != laid.indexOf(person)) {
                moved++;
            }
        }
        return moved;
    }

    int untangle(int row) {
        needRow(row);
        save();
        List<Integer> best = bestOrder(row);
        world.rows.set(row, best);
        return world.crossingsTo(row) + world.crossingsTo(row + 1);
    }

    /** The first of all orders that has the fewest crossings. */
    private List<Integer> bestOrder(int row) {
        List<Integer> people = new ArrayList<>(new TreeSet<>(world.rows.get(row)));
        List<List<Integer>> orders = new ArrayList<>();
        addOrders(new ArrayList<>(), people, orders);
        World would = world.copy();
        List<Integer> best = null;
        int fewest = 0;
        for (List<Integer> order : orders) {
            would.rows.set(row, order);
            int crossings = would.crossingsTo(row) + would.crossingsTo(row + 1);
            if (best == null || crossings < fewest) {
                best = order;
                fewest = crossings;
            }
        }
        return best;
    }

    private static void addOrders(List<Integer> laid, List<Integer> rest, List<List<Integer>> orders) {
        if (rest.isEmpty()) {
            orders.add(new ArrayList<>(laid));
        }
        for (int person : rest) {
            List<Integer> others = new ArrayList<>(rest);
            others.remove(Integer.valueOf(person));
            laid.add(person);
            addOrders(laid, others, orders);
            laid.remove(laid.size() - 1);
        }
    }

    int append(int code) {
        if (code < 33 || code > 126) {
            throw new IllegalArgumentException();
        }
        if (text.length() == 60) {
            throw new IllegalStateException();
        }
        text += (char) code;
        return text.length();
    }

    int clearBuffer() {
        int had = text.length();
        text = "";
        return had;
    }

    /** Some chronicle begins with a text, if one of these makes it whole. */
    private static boolean canGoOn(String begun) {
        for (String rest : new String[] {"", "0", "&0", "0&0"}) {
            if (CHRONICLE.matcher(begun + rest).matches()) {
                return true;
            }
        }
        return false;
    }

    int firstError() {
        for (int index = 0; index < text.length(); index++) {
            if (!canGoOn(text.substring(0, index + 1))) {
                return index;
            }
        }
        return text.length();
    }

    int run() {
        if (!CHRONICLE.matcher(text).matches()) {
            throw new IllegalArgumentException();
        }
        save();
        int done = 0;
        for (String item : text.split(";")) {
            if (!does(item)) {
                break;
            }
            done++;
        }
        text = "";
        return done;
    }

    private boolean does(String item) {
        try {
            if (item.startsWith("+")) {
                String[] both = item.substring(1).split("&");
                int person = Integer.parseInt(both[0]);
                int other = Integer.parseInt(both[1]);
                needPerson(person);
                needPerson(other);
                return person != other && become(person, other) >= 10;
            }
            if (item.startsWith("^")) {
                needCouple(Integer.parseInt(item.substring(1)));
                return comeAsChild(Integer.parseInt(item.substring(1))) != -1;
            }
            return come(Integer.parseInt(item), -1) != -1;
        } catch (IndexOutOfBoundsException e) {
            return false;
        }
    }

    int keep(int slot) {
        needWhat(slot, 1);
        slots[slot] = world.copy();
        return world.rowOf.size();
    }

    int goBack(int slot) {
        needWhat(slot, 1);
        if (slots[slot] == null) {
            throw new IllegalStateException();
        }
        save();
        world = slots[slot].copy();
        return world.rowOf.size();
    }

    int undo() {
        if (saved.isEmpty()) {
            throw new IllegalStateException();
        }
        world = saved.remove(saved.size() - 1);
        return saved.size();
    }

    int personOf(int person, int what) {
        needPerson(person);
        needWhat(what, 6);
        int row = world.rowOf.get(person);
        int children = 0;
        for (int couple = 0; couple < world.couples.size(); couple++) {
            int[] both = world.couples.get(couple);
            if (both[0] == person || both[1] == person) {
                children += world.childrenOf(couple);
            }
        }
        int[] all = {row, world.rows.get(row).indexOf(person), world.parentsOf.get(person),
            world.couplesWith(person), children, world.descendants(person), world.ancestors(person).size()};
        return all[what];
    }

    int coupleOf(int couple, int what) {
        needCouple(couple);
        needWhat(what, 5);
        int[] both = world.couples.get(couple);
        int[] all = {both[0], both[1], world.rowOf.get(both[1]), world.middle(couple),
            world.childrenOf(couple), world.commonAncestors(both[0], both[1]).size()};
        return all[what];
    }

    int at(int row, int place) {
        needRow(row);
        if (place < 0) {
            throw new IllegalArgumentException();
        }
        return place < world.rows.get(row).size() ? world.rows.get(row).get(place) : -1;
    }

    int crossings(int row, int what) {
        needRow(row);
        needWhat(what, 1);
        return world.crossingsTo(row);
    }

    private int bent() {
        int bent = 0;
        for (int row = 0; row < 4; row++) {
            for (int[] line : world.linesTo(row)) {
                if (line[0] != line[1] + line[1]) {
                    bent++;
                }
            }
        }
        return bent;
    }

    private int lines() {
        int lines = 0;
        for (int row = 0; row < 4; row++) {
            lines += world.linesTo(row).size();
        }
        return lines;
    }

    int count(int what) {
        needWhat(what, 8);
        int doubles = 0;
        for (int person = 0; person < world.rowOf.size(); person++) {
            doubles += world.couplesWith(person) == 2 ? 1 : 0;
        }
        int kin = 0;
        for (int[] both : world.couples) {
            kin += world.commonAncestors(both[0], both[1]).isEmpty() ? 0 : 1;
        }
        int[] all = {world.rowOf.size(), world.couples.size(), lines(), world.allCrossings(), bent(), doubles, kin,
            world.refused, saved.size()};
        return all[what];
    }

    int least(int row, int what) {
        needRow(row);
        needWhat(what, 1);
        World would = world.copy();
        would.rows.set(row, bestOrder(row));
        return would.crossingsTo(row) + would.crossingsTo(row + 1);
    }

    int bestSwap() {
        int best = -1;
        int fewest = world.allCrossings();
        for (int move = 35; move >= 0; move--) {
            List<Integer> order = world.rows.get(move / 10);
            if (move % 10 + 1 < order.size()) {
                World would = world.copy();
                List<Integer> laid = would.rows.get(move / 10);
                laid.add(move % 10, laid.remove(move % 10 + 1));
                int crossings = would.allCrossings();
                if (crossings < fewest || crossings == fewest && best != -1) {
                    fewest = crossings;
                    best = move;
                }
            }
        }
        return best;
    }

    int nearness(int person, int other) {
        needPerson(person);
        needPerson(other);
        int nearest = 1000;
        for (int ancestor = 0; ancestor < world.rowOf.size(); ancestor++) {
            nearest = Math.min(nearest, world.linesUp(person, ancestor) + world.linesUp(other, ancestor));
        }
        return nearest < 1000 ? nearest : -1;
    }

    double straightShare() {
        return lines() == 0 ? 1.0 : (lines() - bent()) / (double) lines();
    }

    long digest() {
        List<Long> values = new ArrayList<>();
        for (int what = 0; what <= 8; what++) {
            values.add((long) count(what));
        }
        for (int person = 0; person < world.rowOf.size(); person++) {
            for (int what = 0; what <= 6; what++) {
                values.add((long) personOf(person, what));
            }
        }
        for (int couple = 0; couple < world.couples.size(); couple++) {
            for (int what = 0; what <= 5; what++) {
                values.add((long) coupleOf(couple, what));
            }
        }
        for (int row = 0; row < 4; row++) {
            for (int place = 0; place <= 5; place++) {
                values.add((long) at(row, place));
            }
            values.add((long) crossings(row, 0));
            values.add((long) crossings(row, 1));
        }
        for (int row = 0; row < 4; row++) {
            long least = least(row, 0);
            values.add(least);
            values.add(least);
        }
        values.add((long) bestSwap());
        for (int person = 0; person < world.rowOf.size(); person++) {
            values.add((long) nearness(0, person));
        }
        values.add(Double.doubleToLongBits(straightShare()));
        values.add(slots[0] == null ? 0L : 1L);
        values.add(slots[1] == null ? 0L : 1L);
        values.add((long) text.length());
        for (char sign : text.toCharArray()) {
            values.add((long) sign);
        }
        long hash = 3727;
        for (long value : values) {
            hash = 31 * hash + value;
        }
        return hash;
    }

    int people() {
        return world.rowOf.size();
    }

    int couples() {
        return world.couples.size();
    }
}
