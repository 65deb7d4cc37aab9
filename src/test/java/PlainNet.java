import java.math.BigInteger;
import java.util.ArrayList;
import java.util.Comparator;
import java.util.List;
import java.util.TreeMap;
import java.util.TreeSet;

/** The document once more, as slowly and plainly as it can be told, to compare MastField with. */
final class PlainNet {
    private static final class Tower {
        int column;
        int row;
        int power;
        int reach;
        int places;
        boolean awake = true;
        final TreeSet<Integer> neighbours = new TreeSet<>();
        final TreeMap<Integer, Integer> reports = new TreeMap<>();
    }

    private static final class Person {
        int cell;
        Integer tower;
        Integer old;
        int till;
        int wait;
        Integer lastTarget;
        int cause;
        /** The towers left in this call with the ticks of it. */
        final List<int[]> left = new ArrayList<>();
    }

    private int width;
    private int height;
    private int[] shades;
    private List<Tower> towers;
    private List<Person> people;
    private List<Integer> spots;
    private int tick;
    private int[] tally;
    private String tape = "";
    private TreeMap<Character, Integer> rules = first();

    PlainNet() {
        anew(8, 8);
    }

    private static TreeMap<Character, Integer> first() {
        TreeMap<Character, Integer> rules = new TreeMap<>();
        rules.put('h', 6);
        rules.put('t', 2);
        rules.put('m', 20);
        rules.put('d', 1);
        rules.put('w', 10);
        rules.put('n', 3);
        return rules;
    }

    private void anew(int w, int h) {
        width = w;
        height = h;
        shades = new int[w * h];
        towers = new ArrayList<>();
        people = new ArrayList<>();
        spots = new ArrayList<>();
        tick = 0;
        tally = new int[18];
    }

    private static boolean in(int n, int least, int most) {
        return least <= n && n <= most;
    }

    private boolean cell(int c) {
        return in(c, 0, width * height - 1);
    }

    private boolean tower(int m) {
        return in(m, 0, towers.size() - 1);
    }

    private boolean person(int k) {
        return in(k, 0, people.size() - 1);
    }

    boolean map(int w, int h) {
        boolean good = in(w, 2, 10) && in(h, 2, 10);
        if (good) {
            anew(w, h);
        }
        return good;
    }

    boolean shade(int c, int n) {
        boolean good = cell(c) && in(n, 0, 20);
        if (good) {
            shades[c] = n;
        }
        return good;
    }

    int mast(int c, int power, int reach, int places) {
        if (!cell(c) || !in(power, 0, 200) || !in(reach, 0, 10) || !in(places, 0, 20) || towers.size() == 8) {
            return -1;
        }
        Tower it = new Tower();
        it.column = c % width;
        it.row = c / width;
        it.power = power;
        it.reach = reach;
        it.places = places;
        towers.add(it);
        return towers.size() - 1;
    }

    boolean reach(int m, int n) {
        boolean good = tower(m) && in(n, 0, 10);
        if (good) {
            towers.get(m).reach = n;
        }
        return good;
    }

    boolean wake(int m, boolean is) {
        boolean good = tower(m) && towers.get(m).awake != is;
        if (good) {
            towers.get(m).awake = is;
        }
        return good;
    }

    int field(int m, int c) {
        return tower(m) && cell(c) && towers.get(m).awake ? power(m, c, towers.get(m).reach) : -1000;
    }

    private int power(int m, int c, int reach) {
        Tower it = towers.get(m);
        int right = c % width - it.column;
        int down = c / width - it.row;
        int s = Math.max(Math.abs(right), Math.abs(down));
        int field = it.power - 3 * s;
        for (int step = 1; step <= s; step++) {
            // Math.round takes halves up, and doubles tell halves of such small numbers exactly.
            int column = (int) Math.round(it.column + (double) (step * right) / s);
            int row = (int) Math.round(it.row + (double) (step * down) / s);
            field -= shades[width * row + column];
            if (step > reach) {
                field -= 4;
            }
        }
        return field;
    }

    int feed(int... words) {
        if (tape.length() + 20 > 60) {
            return -1;
        }
        for (int word : words) {
            for (int part = 3; part >= 0; part--) {
                tape += (char) (word >>> 8 * part & 255);
            }
        }
        return tape.length();
    }

    int rules(int n) {
        if (!in(n, 0, tape.length())) {
            return -1;
        }
        String text = tape.substring(0, n);
        tape = "";
        TreeMap<Character, Integer> told = first();
        int at = 0;
        while (true) {
            if (at == n || "htmdwn".indexOf(text.charAt(at)) < 0) {
                return 100 + at;
            }
            char letter = text.charAt(at);
            int end = at + 1;
            while (end < n && "0123456789".indexOf(text.charAt(end)) >= 0) {
                end++;
            }
            if (end == at + 1) {
                return 200 + end;
            }
            if (end - at > 5) {
                return 300 + at + 5;
            }
            int number = Integer.parseInt(text.substring(at + 1, end));
            int least = letter == 't' || letter == 'n' ? 1 : 0;
            int most = letter == 'h' ? 50 : letter == 'm' ? 100 : letter == 't' || letter == 'd' ? 9 : 99;
            if (!in(number, least, most)) {
                return 400 + at + 1;
            }
            told.put(letter, number);
            if (end == n) {
                rules = told;
                return 0;
            }
            if (text.charAt(end) != ';') {
                return 500 + end;
            }
            at = end + 1;
        }
    }

    boolean neighbour(int a, int b, boolean is) {
        if (!tower(a) || !tower(b) || a == b) {
            return false;
        }
        TreeSet<Integer> set = towers.get(a).neighbours;
        return is ? set.add(b) : set.remove(b);
    }

    int caller(int c) {
        if (!cell(c) || people.size() == 20) {
            return -1;
        }
        Person it = new Person();
        it.cell = c;
        people.add(it);
        return people.size() - 1;
    }

    boolean move(int k, int c) {
        boolean good = person(k) && cell(c);
        if (good) {
            people.get(k).cell = c;
        }
        return good;
    }

    private int taken(int m) {
        int sum = 0;
        for (Person it : people) {
            sum += it.tower != null && it.tower == m ? 1 : 0;
            sum += it.old != null && it.old == m ? 1 : 0;
        }
        return sum;
    }

    private boolean free(int m) {
        return taken(m) < towers.get(m).places;
    }

    /** Towers awake with a field of the bar or more, the greatest first, of like ones the lowest first. */
    private List<Integer> heard(int c, int bar) {
        List<Integer> found = new ArrayList<>();
        for (int m = 0; m < towers.size(); m++) {
            if (towers.get(m).awake && field(m, c) >= bar) {
                found.add(m);
            }
        }
        found.sort(Comparator.comparingInt(m -> -field(m, c)));
        return found;
    }

    int call(int k) {
        if (!person(k) || people.get(k).tower != null) {
            return -1;
        }
        Person it = people.get(k);
        for (int m : heard(it.cell, rules.get('m'))) {
            if (free(m)) {
                it.tower = m;
                it.wait = 0;
                it.lastTarget = null;
                it.cause = 0;
                it.left.clear();
                return m;
            }
        }
        tally[6]++;
        return -2;
    }

    boolean hang(int k) {
        if (!person(k) || people.get(k).tower == null) {
            return false;
        }
        end(people.get(k));
        return true;
    }

    private static void end(Person it) {
        it.tower = null;
        it.old = null;
        it.wait = 0;
        it.left.clear();
    }

    int tick() {
        if (tick == 10000) {
            return -1;
        }
        tick++;
        for (Person it : people) {
            if (it.tower == null) {
                continue;
            }
            if (it.old != null && tick >= it.till) {
                it.old = null;
            }
            if (!heard(it.cell, rules.get('m')).contains(it.tower)) {
                drop(it);
            } else {
                target(it);
                report(it);
            }
        }
        return tick;
    }

    private void drop(Person it) {
        Tower lost = towers.get(it.tower);
        end(it);
        List<Integer> others = heard(it.cell, rules.get('m'));
        it.cause = 1;
        if (!others.isEmpty()) {
            it.cause = 2;
            for (int m : others) {
                if (free(m)) {
                    it.cause = Math.max(it.cause, lost.neighbours.contains(m) ? 4 : 3);
                }
            }
        }
        tally[9 + it.cause]++;
    }

    private void target(Person it) {
        Integer target = null;
        for (int m : heard(it.cell, field(it.tower, it.cell) + rules.get('h'))) {
            if (target == null && towers.get(it.tower).neighbours.contains(m)) {
                target = m;
            }
        }
        if (target == null) {
            it.wait = 0;
            it.lastTarget = null;
            return;
        }
        it.wait = target.equals(it.lastTarget) ? it.wait + 1 : 1;
        it.lastTarget = target;
        if (it.wait < rules.get('t')) {
            return;
        }
        if (!free(target)) {
            tally[9]++;
            return;
        }
        tally[7]++;
        if (!it.left.isEmpty()) {
            int[] last = it.left.get(it.left.size() - 1);
            if (last[0] == target && tick - last[1] <= rules.get('w')) {
                tally[8]++;
            }
        }
        it.left.add(new int[] {it.tower, tick});
        if (rules.get('d') > 0 && it.old == null) {
            it.old = it.tower;
            it.till = tick + rules.get('d');
        }
        it.tower = target;
        it.wait = 0;
        it.lastTarget = null;
    }

    private void report(Person it) {
        Tower own = towers.get(it.tower);
        for (int m : heard(it.cell, field(it.tower, it.cell) + rules.get('h'))) {
            if (m == it.tower || own.neighbours.contains(m)) {
                continue;
            }
            own.reports.merge(m, 1, Integer::sum);
            if (own.reports.get(m) >= rules.get('n')) {
                own.reports.remove(m);
                own.neighbours.add(m);
                tally[17]++;
            }
            return;
        }
    }

    private static int orNone(Integer n) {
        return n == null ? -1 : n;
    }

    int look(int k, int what) {
        if (!person(k) || !in(what, 0, 5)) {
            return -1;
        }
        Person it = people.get(k);
        return new int[] {it.cell, orNone(it.tower), orNone(it.old), it.wait, it.left.size(), it.cause}[what];
    }

    int about(int m, int what) {
        if (!tower(m) || !in(what, 0, 7)) {
            return -1;
        }
        Tower it = towers.get(m);
        int bits = 0;
        for (int n : it.neighbours) {
            bits += 1 << n;
        }
        int cells = 0;
        for (int c = 0; c < width * height; c++) {
            cells += heard(c, rules.get('m')).contains(m) ? 1 : 0;
        }
        return new int[] {it.row * width + it.column, it.power, it.reach, it.places, taken(m), it.awake ? 1 : 0, bits,
            cells}[what];
    }

    int reports(int a, int b) {
        return tower(a) && tower(b) && a != b ? towers.get(a).reports.getOrDefault(b, 0) : -1;
    }

    int covered(int c) {
        return cell(c) ? heard(c, rules.get('m')).isEmpty() ? 0 : 1 : -1;
    }

    boolean spot(int c) {
        return cell(c) && !spots.contains(c) && spots.size() < 20 && spots.add(c);
    }

    int sleep() {
        int best = 0;
        for (int set = 255; set > 0; set--) {
            boolean good = true;
            for (int m = 0; m < 8; m++) {
                good &= (set >> m & 1) == 0 || tower(m) && towers.get(m).awake;
            }
            for (int spot : spots) {
                List<Integer> heard = heard(spot, rules.get('m'));
                boolean covered = !heard.isEmpty();
                int without = set;
                heard.removeIf(m -> (without >> m & 1) == 1);
                good &= !covered || !heard.isEmpty();
            }
            if (good && Integer.bitCount(set) >= Integer.bitCount(best)) {
                best = set;
            }
        }
        return best;
    }

    /** Sets each choice of reaches for real, and counts. */
    int best(int i) {
        int chosen = Math.min(4, towers.size());
        int[] before = towers.stream().mapToInt(it -> it.reach).toArray();
        int most = -1;
        int[] row = new int[4];
        for (int choice = 0; choice < 81; choice++) {
            int[] reaches = {1 + 2 * (choice / 27), 1 + 2 * (choice / 9 % 3), 1 + 2 * (choice / 3 % 3), 1 + 2 * (choice % 3)};
            for (int m = 0; m < chosen; m++) {
                towers.get(m).reach = reaches[m];
            }
            int cells = coveredCells();
            if (cells > most) {
                most = cells;
                row = reaches;
            }
        }
        for (int m = 0; m < before.length; m++) {
            towers.get(m).reach = before[m];
        }
        return i == -1 ? most : in(i, 0, chosen - 1) ? row[i] : -1;
    }

    private int coveredCells() {
        int cells = 0;
        for (int c = 0; c < width * height; c++) {
            cells += covered(c);
        }
        return cells;
    }

    int loss(int c, int a, int b) {
        if (!in(c, 0, 6) || !in(a, 1, 20) || !in(b, 1, 20)) {
            return -1;
        }
        BigInteger part = BigInteger.valueOf(720).multiply(BigInteger.valueOf(b).pow(6));
        BigInteger sum = part;
        for (int i = 1; i <= c; i++) {
            part = part.multiply(BigInteger.valueOf(a)).divide(BigInteger.valueOf((long) b * i));
            sum = sum.add(part);
        }
        return part.multiply(BigInteger.valueOf(1000000)).divide(sum).intValueExact();
    }

    int count(int what) {
        if (in(what, 30, 29 + width * height)) {
            return shades[what - 30];
        }
        if (in(what, 20, 25)) {
            return rules.get("htmdwn".charAt(what - 20));
        }
        switch (what) {
            case 0: return width;
            case 1: return height;
            case 2: return towers.size();
            case 3: return people.size();
            case 4: return (int) people.stream().filter(it -> it.tower != null).count();
            case 5: return tick;
            case 14: return spots.size();
            case 15: return coveredCells();
            case 16: return tape.length();
            default: return in(what, 6, 17) ? tally[what] : -1;
        }
    }
}
