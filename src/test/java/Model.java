import java.util.ArrayDeque;
import java.util.ArrayList;
import java.util.Arrays;
import java.util.HashMap;
import java.util.List;
import java.util.Map;
import java.util.TreeMap;
import java.util.TreeSet;

/** The document once more, slow and plain: a whole copy of the state for each act, and nothing kept that can be told anew. */
final class Model {

    private static final class Placement {
        int sheet;
        int parent;
        TreeMap<Integer, Integer> joints = new TreeMap<>();

        Placement copy() {
            Placement c = new Placement();
            c.sheet = sheet;
            c.parent = parent;
            c.joints.putAll(joints);
            return c;
        }
    }

    private static final class State {
        List<TreeSet<Integer>> names = new ArrayList<>();
        List<List<Integer>> on = new ArrayList<>();
        List<List<int[]>> gates = new ArrayList<>();
        List<Placement> placements = new ArrayList<>();
        List<int[]> parts = new ArrayList<>();
        List<Integer> variants = new ArrayList<>();
        Map<List<Object>, Long> told = new HashMap<>();
        int rule;

        int addSheet() {
            names.add(new TreeSet<>());
            on.add(new ArrayList<>());
            gates.add(new ArrayList<>());
            return names.size() - 1;
        }

        State copy() {
            State c = new State();
            for (int s = 0; s < names.size(); s++) {
                c.names.add(new TreeSet<>(names.get(s)));
                c.on.add(new ArrayList<>(on.get(s)));
                c.gates.add(new ArrayList<>(gates.get(s)));
            }
            for (Placement p : placements) {
                c.placements.add(p == null ? null : p.copy());
            }
            c.parts.addAll(parts);
            c.variants.addAll(variants);
            c.told.putAll(told);
            c.rule = rule;
            return c;
        }
    }

    private State now = new State();
    private final ArrayDeque<State> before = new ArrayDeque<>();
    private List<Integer> lost = new ArrayList<>();

    Model() {
        now.addSheet();
    }

    /** How many sheets, placements, parts, variants and pages there are, for tests that choose arguments. */
    int[] sizes() {
        return new int[] {now.names.size(), now.placements.size(), now.parts.size(), now.variants.size(), pages()};
    }

    private static void need(boolean there) {
        if (!there) {
            throw new IndexOutOfBoundsException();
        }
    }

    private void needIn(int index, int count) {
        need(index >= 0 && index < count);
    }

    private void needSheet(int s) {
        needIn(s, now.names.size());
    }

    private void needPlacement(int p) {
        needIn(p, now.placements.size());
        need(now.placements.get(p) != null);
    }

    private void act(State next) {
        before.addLast(now);
        if (before.size() > 50) {
            before.removeFirst();
        }
        now = next;
    }

    private static boolean liesIn(State s, int inner, int outer) {
        for (int p : s.on.get(outer)) {
            int sheet = s.placements.get(p).sheet;
            if (sheet == inner || liesIn(s, inner, sheet)) {
                return true;
            }
        }
        return false;
    }

    private static List<List<Integer>> paths(State s) {
        List<List<Integer>> all = new ArrayList<>();
        collect(s, 0, new ArrayList<>(), all);
        return all;
    }

    private static void collect(State s, int sheet, List<Integer> path, List<List<Integer>> all) {
        if (all.size() > 300) {
            return;
        }
        all.add(path);
        for (int p : s.on.get(sheet)) {
            List<Integer> longer = new ArrayList<>(path);
            longer.add(p);
            collect(s, s.placements.get(p).sheet, longer, all);
        }
    }

    private static int sheetOf(State s, List<Integer> path) {
        return path.isEmpty() ? 0 : s.placements.get(path.get(path.size() - 1)).sheet;
    }

    int sheet() {
        if (now.names.size() == 24) {
            return -1;
        }
        State next = now.copy();
        int made = next.addSheet();
        act(next);
        return made;
    }

    int place(int parent, int sheet) {
        needSheet(parent);
        needSheet(sheet);
        if (now.placements.size() == 60 || parent == sheet || liesIn(now, parent, sheet)) {
            return -1;
        }
        State next = now.copy();
        int made = put(next, parent, sheet);
        if (paths(next).size() > 300) {
            return -1;
        }
        act(next);
        return made;
    }

    private static int put(State next, int parent, int sheet) {
        Placement p = new Placement();
        p.sheet = sheet;
        p.parent = parent;
        next.placements.add(p);
        next.on.get(parent).add(next.placements.size() - 1);
        return next.placements.size() - 1;
    }

    boolean remove(int placement) {
        needPlacement(placement);
        State next = now.copy();
        next.on.get(next.placements.get(placement).parent).remove(Integer.valueOf(placement));
        next.placements.set(placement, null);
        act(next);
        return true;
    }

    boolean move(int placement, int parent) {
        needPlacement(placement);
        needSheet(parent);
        State next = now.copy();
        Placement p = next.placements.get(placement);
        if (p.sheet == parent || liesIn(now, parent, p.sheet)) {
            return false;
        }
        next.on.get(p.parent).remove(Integer.valueOf(placement));
        p.parent = parent;
        next.on.get(parent).add(placement);
        if (paths(next).size() > 300) {
            return false;
        }
        lost = new ArrayList<>();
        for (int name : new ArrayList<>(p.joints.keySet())) {
            if (!next.names.get(parent).contains(p.joints.get(name))) {
                p.joints.remove(name);
                lost.add(name);
            }
        }
        act(next);
        return true;
    }

    int told(int k) {
        return k >= 0 && k < lost.size() ? lost.get(k) : -1;
    }

    boolean port(int sheet, int name) {
        needSheet(sheet);
        needIn(name, 32);
        State next = now.copy();
        if (!next.names.get(sheet).add(name)) {
            return false;
        }
        act(next);
        return true;
    }

    boolean join(int placement, int name, int outer) {
        needPlacement(placement);
        needIn(name, 32);
        needIn(outer, 32);
        State next = now.copy();
        Placement p = next.placements.get(placement);
        if (!now.names.get(p.sheet).contains(name) || !now.names.get(p.parent).contains(outer)) {
            return false;
        }
        Integer old = p.joints.put(name, outer);
        if (old != null && old == outer) {
            return false;
        }
        act(next);
        return true;
    }

    int joined(int placement, int name) {
        needPlacement(placement);
        needIn(name, 32);
        return now.placements.get(placement).joints.getOrDefault(name, -1);
    }

    int part(int letter, int gates) {
        if (letter < 0 || letter > 25 || gates < 1 || gates > 8) {
            throw new IllegalArgumentException();
        }
        if (now.parts.size() == 30) {
            return -1;
        }
        State next = now.copy();
        next.parts.add(new int[] {letter, gates});
        act(next);
        return next.parts.size() - 1;
    }

    private int sheetOfGate(int part, int gate) {
        for (int s = 0; s < now.gates.size(); s++) {
            for (int[] g : now.gates.get(s)) {
                if (g[0] == part && g[1] == gate) {
                    return s;
                }
            }
        }
        return -1;
    }

    boolean gate(int sheet, int part, int gate) {
        needSheet(sheet);
        needIn(part, now.parts.size());
        needIn(gate, now.parts.get(part)[1]);
        if (sheetOfGate(part, gate) >= 0 || now.gates.get(sheet).size() == 20) {
            return false;
        }
        State next = now.copy();
        next.gates.get(sheet).add(new int[] {part, gate});
        act(next);
        return true;
    }

    int copy(int sheet) {
        needSheet(sheet);
        State next = now.copy();
        int made = next.addSheet();
        next.names.get(made).addAll(now.names.get(sheet));
        for (int p : now.on.get(sheet)) {
            Placement old = now.placements.get(p);
            int twin = put(next, made, old.sheet);
            next.placements.get(twin).joints.putAll(old.joints);
        }
        Map<Integer, Integer> twins = new HashMap<>();
        for (int[] g : now.gates.get(sheet)) {
            if (!twins.containsKey(g[0])) {
                twins.put(g[0], next.parts.size());
                next.parts.add(now.parts.get(g[0]));
            }
            next.gates.get(made).add(new int[] {twins.get(g[0]), g[1]});
        }
        if (next.names.size() > 24 || next.placements.size() > 60 || next.parts.size() > 30) {
            return -1;
        }
        act(next);
        return made;
    }

    boolean rule(int how) {
        if (how != 0 && how != 1) {
            throw new IllegalArgumentException();
        }
        if (now.rule == how) {
            return false;
        }
        State next = now.copy();
        next.rule = how;
        act(next);
        return true;
    }

    int variant(int above) {
        need(above >= -1 && above < now.variants.size());
        if (now.variants.size() == 10) {
            return -1;
        }
        State next = now.copy();
        next.variants.add(above);
        act(next);
        return next.variants.size() - 1;
    }

    private boolean tell(String what, int variant, int page, int part, long v) {
        needIn(variant, now.variants.size());
        List<List<Integer>> pages = paths(now);
        needIn(page, pages.size());
        needIn(part, now.parts.size());
        State next = now.copy();
        Long old = next.told.put(Arrays.asList(what, variant, pages.get(page), part), v);
        if (old != null && old == v || next.told.size() > 40) {
            return false;
        }
        act(next);
        return true;
    }

    private long hear(String what, int variant, int page, int part, long without) {
        need(variant >= -1 && variant < now.variants.size());
        List<List<Integer>> pages = paths(now);
        needIn(page, pages.size());
        needIn(part, now.parts.size());
        for (int v = variant; v >= 0; v = now.variants.get(v)) {
            for (int length = pages.get(page).size(); length >= 0; length--) {
                Long told = now.told.get(Arrays.asList(what, v, pages.get(page).subList(0, length), part));
                if (told != null) {
                    return told;
                }
            }
        }
        return without;
    }

    boolean value(int variant, int page, int part, long v) {
        return tell("value", variant, page, part, v);
    }

    boolean fit(int variant, int page, int part, boolean on) {
        return tell("fit", variant, page, part, on ? 1 : 0);
    }

    long valueOf(int variant, int page, int part) {
        return hear("value", variant, page, part, 0);
    }

    boolean fitted(int variant, int page, int part) {
        return hear("fit", variant, page, part, 1) == 1;
    }

    boolean undo() {
        if (before.isEmpty()) {
            return false;
        }
        now = before.removeLast();
        lost = new ArrayList<>();
        return true;
    }

    int pages() {
        return paths(now).size();
    }

    int page(int page, int what) {
        List<List<Integer>> all = paths(now);
        needIn(page, all.size());
        needIn(what, 4);
        List<Integer> path = all.get(page);
        int length = path.size();
        switch (what) {
            case 0:
                return sheetOf(now, path);
            case 1:
                return length == 0 ? -1 : path.get(length - 1);
            case 2:
                return length == 0 ? -1 : all.indexOf(path.subList(0, length - 1));
            default:
                return length;
        }
    }

    /** The pages on which a gate comes. */
    private List<Integer> comings(int part, int gate) {
        List<Integer> found = new ArrayList<>();
        int sheet = sheetOfGate(part, gate);
        List<List<Integer>> all = paths(now);
        for (int page = 0; page < all.size(); page++) {
            if (sheetOf(now, all.get(page)) == sheet) {
                found.add(page);
            }
        }
        return found;
    }

    int units(int part) {
        needIn(part, now.parts.size());
        int most = 0;
        for (int gate = 0; gate < now.parts.get(part)[1]; gate++) {
            most = Math.max(most, comings(part, gate).size());
        }
        return most;
    }

    int where(int part, int unit, int gate) {
        needIn(part, now.parts.size());
        needIn(unit, units(part));
        needIn(gate, now.parts.get(part)[1]);
        List<Integer> pages = comings(part, gate);
        return unit < pages.size() ? pages.get(unit) : -1;
    }

    /** The first page and the place there, for all units of a part, as one number each. */
    private List<Integer> firsts(int part) {
        List<Integer> keys = new ArrayList<>();
        for (int gate = 0; gate < now.parts.get(part)[1]; gate++) {
            int sheet = sheetOfGate(part, gate);
            List<Integer> pages = comings(part, gate);
            for (int unit = 0; unit < pages.size(); unit++) {
                int place = 0;
                for (int[] g = now.gates.get(sheet).get(0); g[0] != part || g[1] != gate;) {
                    place++;
                    g = now.gates.get(sheet).get(place);
                }
                int key = pages.get(unit) * 1000 + place;
                if (unit == keys.size()) {
                    keys.add(key);
                } else {
                    keys.set(unit, Math.min(keys.get(unit), key));
                }
            }
        }
        return keys;
    }

    int name(int part, int unit) {
        needIn(part, now.parts.size());
        needIn(unit, units(part));
        int letter = now.parts.get(part)[0];
        int own = firsts(part).get(unit);
        int number = 1;
        for (int other = 0; other < now.parts.size(); other++) {
            if (now.parts.get(other)[0] == letter) {
                for (int key : firsts(other)) {
                    boolean counts = now.rule == 0 || key / 1000 == own / 1000;
                    number += counts && key < own ? 1 : 0;
                }
            }
        }
        return letter * 10000 + number + (now.rule == 1 ? 100 * (own / 1000) : 0);
    }
}
