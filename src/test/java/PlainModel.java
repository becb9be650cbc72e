import java.util.ArrayDeque;
import java.util.ArrayList;
import java.util.Arrays;
import java.util.Comparator;
import java.util.HashSet;
import java.util.List;
import java.util.Set;
import java.util.TreeSet;

/**
 * The document once more, written as it reads and by other means than the class: lists and
 * sets of the library, a past that is kept whole, and a greatest set found by trying.
 */
final class PlainModel {
    private final List<Integer> identifiers = new ArrayList<>();
    private final List<Integer> parents = new ArrayList<>();
    private final List<List<Integer>> past = new ArrayList<>();
    private List<Integer> colours = new ArrayList<>();

    private boolean missing(int node) {
        return node < 0 || node >= identifiers.size();
    }

    private int size() {
        return identifiers.size();
    }

    private Set<Integer> neighbours(int node) {
        Set<Integer> found = new HashSet<>();
        for (int other = 0; other < size(); other++) {
            if (Integer.valueOf(other).equals(parents.get(node))
                    || Integer.valueOf(node).equals(parents.get(other))) {
                found.add(other);
            }
        }
        return found;
    }

    private int lowestFree(int node) {
        Set<Integer> taken = new HashSet<>();
        for (int other : neighbours(node)) {
            taken.add(colours.get(other));
        }
        int colour = 0;
        while (taken.contains(colour)) {
            colour++;
        }
        return colour;
    }

    private void round(List<Integer> next) {
        past.add(colours);
        colours = next;
    }

    int addNode(int identifier) {
        if (identifier < 0 || identifier > 65535) return -2;
        if (identifiers.contains(identifier)) return -3;
        if (size() == 24) return -4;
        identifiers.add(identifier);
        parents.add(null);
        colours.add(identifier);
        past.clear();
        return size() - 1;
    }

    int setParent(int node, int parent) {
        if (missing(node) || missing(parent)) return -1;
        if (node == parent) return -2;
        past.clear();
        Integer before = parents.set(node, parent);
        return before == null ? -7 : before;
    }

    int removeParent(int node) {
        if (missing(node)) return -1;
        past.clear();
        Integer before = parents.set(node, null);
        return before == null ? -7 : before;
    }

    int parent(int node) {
        if (missing(node)) return -1;
        return parents.get(node) == null ? -7 : parents.get(node);
    }

    int degree(int node) {
        return missing(node) ? -1 : neighbours(node).size();
    }

    private List<Integer> walk(int node) {
        List<Integer> seen = new ArrayList<>();
        Integer at = node;
        while (at != null && !seen.contains(at)) {
            seen.add(at);
            at = parents.get(at);
        }
        seen.add(at);
        return seen;
    }

    int depth(int node) {
        if (missing(node)) return -1;
        List<Integer> walk = walk(node);
        return walk.get(walk.size() - 1) == null ? walk.size() - 2 : -7;
    }

    int cycleLength(int node) {
        if (missing(node)) return -1;
        List<Integer> walk = walk(node);
        Integer last = walk.get(walk.size() - 1);
        return last != null && last == node ? walk.size() - 1 : -7;
    }

    private Set<Integer> part(int node) {
        Set<Integer> part = new TreeSet<>();
        ArrayDeque<Integer> open = new ArrayDeque<>(List.of(node));
        while (!open.isEmpty()) {
            int at = open.remove();
            if (part.add(at)) {
                open.addAll(neighbours(at));
            }
        }
        return part;
    }

    int partCount() {
        Set<Set<Integer>> parts = new HashSet<>();
        for (int node = 0; node < size(); node++) {
            parts.add(part(node));
        }
        return parts.size();
    }

    int colour(int node) {
        return missing(node) ? -1 : colours.get(node);
    }

    int setColour(int node, int colour) {
        if (missing(node)) return -1;
        if (colour < 0 || colour > 65535) return -2;
        past.clear();
        return colours.set(node, colour);
    }

    int resetColours() {
        int changed = 0;
        for (int node = 0; node < size(); node++) {
            changed += colours.get(node).equals(identifiers.get(node)) ? 0 : 1;
        }
        colours = new ArrayList<>(identifiers);
        past.clear();
        return changed;
    }

    int recolour(int node) {
        if (missing(node)) return -1;
        colours.set(node, lowestFree(node));
        past.clear();
        return colours.get(node);
    }

    int colourCount() {
        return new HashSet<>(colours).size();
    }

    int greatestColour() {
        return colours.stream().max(Comparator.naturalOrder()).orElse(-7);
    }

    private boolean conflict(int node) {
        Integer parent = parents.get(node);
        return parent != null && colours.get(parent).equals(colours.get(node));
    }

    int conflictCount() {
        int count = 0;
        for (int node = 0; node < size(); node++) {
            count += conflict(node) ? 1 : 0;
        }
        return count;
    }

    private int bit(int node) {
        if (parents.get(node) == null) return 0;
        int own = colours.get(node);
        int other = colours.get(parents.get(node));
        int bit = 0;
        while ((own >> bit) % 2 == (other >> bit) % 2) {
            bit++;
        }
        return bit;
    }

    int differingBit(int node) {
        if (missing(node)) return -1;
        return conflict(node) ? -5 : bit(node);
    }

    int reduce() {
        if (conflictCount() > 0) return -5;
        List<Integer> next = new ArrayList<>();
        for (int node = 0; node < size(); node++) {
            next.add(2 * bit(node) + (colours.get(node) >> bit(node)) % 2);
        }
        round(next);
        return greatestColour();
    }

    int shift() {
        List<Integer> next = new ArrayList<>();
        int changed = 0;
        for (int node = 0; node < size(); node++) {
            Integer parent = parents.get(node);
            int lowest = 0;
            while (colours.get(node) == lowest) {
                lowest++;
            }
            next.add(parent == null ? lowest : colours.get(parent));
            changed += next.get(node).equals(colours.get(node)) ? 0 : 1;
        }
        round(next);
        return changed;
    }

    int eliminate(int colour) {
        if (colour < 3 || colour > 65535) return -2;
        if (conflictCount() > 0) return -5;
        List<Integer> next = new ArrayList<>(colours);
        int had = 0;
        for (int node = 0; node < size(); node++) {
            if (colours.get(node) == colour) {
                if (lowestFree(node) > 2) return -6;
                next.set(node, lowestFree(node));
                had++;
            }
        }
        round(next);
        return had;
    }

    int reduceToThree() {
        if (conflictCount() > 0) return -5;
        int before = past.size();
        while (greatestColour() > 5) {
            reduce();
        }
        for (int colour : new int[] {5, 4, 3}) {
            shift();
            if (eliminate(colour) < 0) throw new IllegalStateException("an elimination was refused");
        }
        return past.size() - before;
    }

    int roundCount() {
        return past.size();
    }

    int pastColour(int node, int roundsAgo) {
        if (missing(node)) return -1;
        if (roundsAgo < 0 || roundsAgo > 16) return -2;
        if (roundsAgo > past.size()) return -7;
        return roundsAgo == 0 ? colours.get(node) : past.get(past.size() - roundsAgo).get(node);
    }

    private Set<Integer> independentSet() {
        List<Integer> order = new ArrayList<>();
        for (int node = 0; node < size(); node++) {
            order.add(node);
        }
        order.sort(Comparator.<Integer>comparingInt(colours::get).thenComparing(Comparator.naturalOrder()));
        Set<Integer> set = new HashSet<>();
        for (int node : order) {
            if (neighbours(node).stream().noneMatch(set::contains)) {
                set.add(node);
            }
        }
        return set;
    }

    int inIndependentSet(int node) {
        if (missing(node)) return -1;
        if (conflictCount() > 0) return -5;
        return independentSet().contains(node) ? 1 : 0;
    }

    int independentSetSize() {
        return conflictCount() > 0 ? -5 : independentSet().size();
    }

    int greatestIndependentSet(int node) {
        if (missing(node)) return -1;
        int[] bits = new int[size()];
        for (int other = 0; other < size(); other++) {
            bits[other] = neighbours(other).stream().mapToInt(n -> 1 << n).sum();
        }
        int part = part(node).stream().mapToInt(n -> 1 << n).sum();
        int[] known = new int[1 << 16];
        Arrays.fill(known, -1);
        return greatest(part, bits, known);
    }

    /** With its highest node or without it, whichever is better; small sets are looked up. */
    private static int greatest(int left, int[] bits, int[] known) {
        if (left == 0) return 0;
        if (left < known.length && known[left] >= 0) return known[left];
        int node = 31 - Integer.numberOfLeadingZeros(left);
        int without = left & ~(1 << node);
        int with = 1 + greatest(without & ~bits[node], bits, known);
        int best = (bits[node] & left) == 0 ? with : Math.max(with, greatest(without, bits, known));
        if (left < known.length) known[left] = best;
        return best;
    }
}
