import java.util.ArrayDeque;
import java.util.ArrayList;
import java.util.Arrays;
import java.util.BitSet;
import java.util.HashSet;
import java.util.List;
import java.util.Set;
import java.util.TreeSet;
import java.util.regex.Matcher;
import java.util.regex.Pattern;

/**
 * The document said again in the slowest way: with the Java library, new objects for
 * everything and every possibility tried. ModelTest holds ChalkRoads against it.
 */
final class Plain {
    private static final int BAD = -1, STATE = -2, FULL = -3, NONE = -4;

    private static final class Line {
        int a, b, yards, strength;
        boolean roof;

        Line(int a, int b, int yards, int strength, boolean roof) {
            this.a = a;
            this.b = b;
            this.yards = yards;
            this.strength = strength;
            this.roof = roof;
        }

        Line copy() {
            return new Line(a, b, yards, strength, roof);
        }
    }

    private record One(int home, int goal, int start) { }

    private record Heard(int some, boolean came) { }

    private static final class World {
        int points = 5;
        Set<Integer> houses = new TreeSet<>();
        List<Line> lines = new ArrayList<>();
        List<Integer> chalk = new ArrayList<>();
        List<One> people = new ArrayList<>();
        BitSet rain = new BitSet();
        List<Heard> heard = new ArrayList<>();

        World copy() {
            World w = new World();
            w.points = points;
            w.houses.addAll(houses);
            for (Line line : lines) {
                w.lines.add(line.copy());
            }
            w.chalk.addAll(chalk);
            w.people.addAll(people);
            w.rain.or(rain);
            w.heard.addAll(heard);
            return w;
        }
    }

    private record Token(int place, char kind, String text) { }

    private static final class Fault extends RuntimeException {
        private static final long serialVersionUID = 1L;
        final int place;
        final int what;

        Fault(int place, int what) {
            super(null, null, false, false);
            this.place = place;
            this.what = what;
        }
    }

    private World w = new World();
    private final StringBuilder tape = new StringBuilder();
    private int fault = 0;
    private final World[] images = new World[2];
    private final Object[] sheets = new Object[4];
    private int torn = 0;

    // ---- the text

    int feed(long v) {
        if (tape.length() > 392) {
            return FULL;
        }
        for (int shift = 56; shift >= 0; shift -= 8) {
            tape.append((char) (v >>> shift & 255));
        }
        return tape.length();
    }

    int end(int n) {
        if (n < 0 || n > tape.length()) {
            return BAD;
        }
        int before = tape.length();
        tape.setLength(n);
        return before;
    }

    private static final Pattern TOKEN = Pattern.compile(" *(?:([a-z]+)|([0-9]+)|(;)|\\z)");

    private static Token token(String text, int[] at) {
        Matcher m = TOKEN.matcher(text);
        m.region(at[0], text.length());
        if (!m.lookingAt()) {
            int i = at[0];
            while (text.charAt(i) == ' ') {
                i++;
            }
            throw new Fault(i, 1);
        }
        at[0] = m.end();
        if (m.group(1) != null) {
            return new Token(m.start(1), 'n', m.group(1));
        }
        if (m.group(2) != null) {
            if (m.group(2).length() > 2) {
                throw new Fault(m.start(2), 1);
            }
            return new Token(m.start(2), '0', m.group(2));
        }
        return m.group(3) != null ? new Token(m.start(3), ';', ";") : new Token(text.length(), '$', "");
    }

    private static int number(Token t, int least, int most) {
        if (t.kind != '0') {
            throw new Fault(t.place, 2);
        }
        int n = Integer.parseInt(t.text);
        if (n < least || n > most) {
            throw new Fault(t.place, 3);
        }
        return n;
    }

    private static void must(boolean is, Token t, int what) {
        if (!is) {
            throw new Fault(t.place, what);
        }
    }

    private World read(String text, int[] lines) {
        World r = new World();
        Set<Integer> named = new HashSet<>();
        boolean pointsTold = false;
        int[] at = {0};
        for (Token t = token(text, at); t.kind != '$'; t = token(text, at)) {
            must(t.kind == 'n', t, 2);
            boolean roofMay = false;
            switch (t.text) {
                case "points" -> {
                    must(!pointsTold, t, 4);
                    pointsTold = true;
                    r.points = number(token(text, at), 2, 9);
                }
                case "house" -> {
                    Token n = token(text, at);
                    int house = number(n, 0, 8);
                    must(r.houses.add(house), n, 4);
                    named.add(house);
                }
                case "line", "one" -> {
                    boolean isLine = t.text.equals("line");
                    must(isLine ? r.lines.size() < 12 : r.people.size() < 5, t, 5);
                    int a = number(token(text, at), 0, 8);
                    Token second = token(text, at);
                    int b = number(second, 0, 8);
                    must(a != b, second, 4);
                    named.add(a);
                    named.add(b);
                    if (isLine) {
                        int yards = number(token(text, at), 1, 9);
                        r.lines.add(new Line(a, b, yards, number(token(text, at), 0, 9), false));
                        roofMay = true;
                    } else {
                        r.people.add(new One(a, b, number(token(text, at), 0, 40)));
                    }
                }
                case "drawer" -> {
                    must(r.chalk.size() < 5, t, 5);
                    r.chalk.add(number(token(text, at), 0, 50));
                }
                case "rain" -> {
                    Token n = token(text, at);
                    int q = number(n, 1, 40);
                    must(!r.rain.get(q), n, 4);
                    r.rain.set(q);
                }
                default -> throw new Fault(t.place, 2);
            }
            Token last = token(text, at);
            if (roofMay && last.text.equals("roof")) {
                r.lines.get(r.lines.size() - 1).roof = true;
                last = token(text, at);
            }
            must(last.kind == ';', last, 2);
            lines[0]++;
        }
        for (int point : named) {
            if (point >= r.points) {
                throw new Fault(text.length(), 6);
            }
        }
        return r;
    }

    int text() {
        String text = tape.toString();
        tape.setLength(0);
        int[] lines = {0};
        try {
            w = read(text, lines);
        } catch (Fault f) {
            fault = f.what;
            return -10 - f.place;
        }
        fault = 0;
        Arrays.fill(images, null);
        return lines[0];
    }

    int fault() {
        return fault;
    }

    int rule(int what) {
        int houses = 0;
        for (int h : w.houses) {
            houses += 1 << h;
        }
        int[] all = {w.points, w.lines.size(), w.chalk.size(), w.people.size(), houses};
        return in(what, all.length) ? all[what] : BAD;
    }

    private static boolean in(int i, int size) {
        return i >= 0 && i < size;
    }

    private boolean isLine(int l) {
        return in(l, w.lines.size());
    }

    private boolean areLines(int some) {
        return in(some, 1 << w.lines.size());
    }

    int line(int l, int what) {
        if (!isLine(l) || !in(what, 5)) {
            return BAD;
        }
        Line line = w.lines.get(l);
        return new int[] {line.a, line.b, line.yards, line.strength, line.roof ? 1 : 0}[what];
    }

    int chalk(int d) {
        return in(d, w.chalk.size()) ? w.chalk.get(d) : BAD;
    }

    int one(int p, int what) {
        if (!in(p, w.people.size()) || !in(what, 3)) {
            return BAD;
        }
        One one = w.people.get(p);
        return new int[] {one.home, one.goal, one.start}[what];
    }

    int rain(int q) {
        return in(q - 1, 40) ? w.rain.get(q) ? 1 : 0 : BAD;
    }

    // ---- what is changed

    int draw(int d, int l) {
        if (!in(d, w.chalk.size()) || !isLine(l)) {
            return BAD;
        }
        int left = w.chalk.get(d) - w.lines.get(l).yards;
        if (left < 0) {
            return STATE;
        }
        w.chalk.set(d, left);
        w.lines.get(l).strength = 9;
        return left;
    }

    int rub(int l, int v) {
        if (!isLine(l) || !in(v, 10)) {
            return BAD;
        }
        int before = w.lines.get(l).strength;
        w.lines.get(l).strength = v;
        return before;
    }

    int wet() {
        int gone = 0;
        for (int l = 0; l < w.lines.size(); l++) {
            Line line = w.lines.get(l);
            if (!line.roof && line.strength > 0 && --line.strength == 0) {
                gone |= 1 << l;
            }
        }
        return gone;
    }

    int cloud(int q, boolean is) {
        int before = rain(q);
        if (before != BAD) {
            w.rain.set(q, is);
        }
        return before;
    }

    int build(int i, boolean is) {
        if (!in(i, w.points)) {
            return BAD;
        }
        return (is ? !w.houses.add(i) : w.houses.remove(i)) ? 1 : 0;
    }

    int plan(int a, int b, int yards) {
        if (!in(a, w.points) || !in(b, w.points) || a == b || !in(yards - 1, 9)) {
            return BAD;
        }
        if (w.lines.size() == 12) {
            return FULL;
        }
        w.lines.add(new Line(a, b, yards, 0, false));
        return w.lines.size() - 1;
    }

    // ---- ways

    private static int sum(List<Line> lines, List<Integer> way) {
        int sum = 0;
        for (int l : way) {
            sum += lines.get(l).yards;
        }
        return sum;
    }

    private static int compare(List<Line> lines, List<Integer> way, List<Integer> other) {
        int c = Integer.compare(sum(lines, way), sum(lines, other));
        if (c == 0) {
            c = Integer.compare(way.size(), other.size());
        }
        for (int i = 0; c == 0 && i < way.size(); i++) {
            c = Integer.compare(way.get(i), other.get(i));
        }
        return c;
    }

    /** Tries all ways that come to no POINT twice; null if there is none. */
    private static List<Integer> bestWay(List<Line> lines, int at, int goal, int seen) {
        if (at == goal) {
            return new ArrayList<>();
        }
        List<Integer> best = null;
        for (int l = 0; l < lines.size(); l++) {
            Line line = lines.get(l);
            if (line.strength == 0 || line.a != at && line.b != at) {
                continue;
            }
            int next = line.a + line.b - at;
            if ((seen >> next & 1) != 0) {
                continue;
            }
            List<Integer> rest = bestWay(lines, next, goal, seen | 1 << next);
            if (rest != null) {
                rest.add(0, l);
                if (best == null || compare(lines, rest, best) < 0) {
                    best = rest;
                }
            }
        }
        return best;
    }

    int way(int a, int b, int what) {
        if (!in(a, w.points) || !in(b, w.points) || !in(what, 2) && !in(what - 10, 9)) {
            return BAD;
        }
        List<Integer> best = bestWay(w.lines, a, b, 1 << a);
        if (best == null) {
            return NONE;
        }
        if (what >= 10) {
            return what - 10 < best.size() ? best.get(what - 10) : NONE;
        }
        return what == 0 ? sum(w.lines, best) : best.size();
    }

    private int reach(int a, int some) {
        ArrayDeque<Integer> open = new ArrayDeque<>(List.of(a));
        Set<Integer> seen = new HashSet<>(open);
        while (!open.isEmpty()) {
            int at = open.remove();
            for (int l = 0; l < w.lines.size(); l++) {
                Line line = w.lines.get(l);
                if ((some >> l & 1) == 0 || line.a != at && line.b != at) {
                    continue;
                }
                if (seen.add(line.a + line.b - at)) {
                    open.add(line.a + line.b - at);
                }
            }
        }
        int bits = 0;
        for (int i : seen) {
            bits += 1 << i;
        }
        return bits;
    }

    private int whole() {
        int bits = 0;
        for (int l = 0; l < w.lines.size(); l++) {
            bits += w.lines.get(l).strength > 0 ? 1 << l : 0;
        }
        return bits;
    }

    int part(int a) {
        return in(a, w.points) ? reach(a, whole()) : BAD;
    }

    private boolean meets(int some) {
        for (int h : w.houses) {
            for (int k : w.houses) {
                if ((reach(h, some) >> k & 1) == 0) {
                    return false;
                }
            }
        }
        return true;
    }

    int meet(int some) {
        return areLines(some) ? meets(some) ? 1 : 0 : BAD;
    }

    int needed() {
        if (!meets(whole())) {
            return STATE;
        }
        int bits = 0;
        for (int l = 0; l < w.lines.size(); l++) {
            if ((whole() >> l & 1) != 0 && !meets(whole() - (1 << l))) {
                bits += 1 << l;
            }
        }
        return bits;
    }

    // ---- a run

    private static final class Walker {
        Integer point;
        Line on;
        int next;
        int left;
        boolean lost;
        int waited;
        int came = NONE;
    }

    private record Run(World world, List<Walker> walkers) { }

    private Run run(int last, int extra) {
        World world = w.copy();
        if (extra > 0) {
            world.rain.set(extra);
        }
        List<Walker> walkers = new ArrayList<>();
        for (One one : world.people) {
            Walker walker = new Walker();
            walker.point = one.home;
            walkers.add(walker);
        }
        for (int q = 1; q <= last; q++) {
            if (world.rain.get(q)) {
                for (Line line : world.lines) {
                    if (!line.roof) {
                        line.strength = Math.max(0, line.strength - 1);
                    }
                }
            }
            drop(walkers);
            for (int p = 0; p < walkers.size(); p++) {
                go(world, walkers, p, q);
            }
        }
        return new Run(world, walkers);
    }

    private static void drop(List<Walker> walkers) {
        for (Walker walker : walkers) {
            if (walker.on != null && walker.on.strength == 0) {
                walker.on = null;
                walker.lost = true;
            }
        }
    }

    private static void go(World world, List<Walker> walkers, int p, int q) {
        Walker me = walkers.get(p);
        One one = world.people.get(p);
        if (me.lost) {
            return;
        }
        if (me.on != null) {
            if (--me.left == 0) {
                Line line = me.on;
                me.on = null;
                me.point = me.next;
                if (me.point == one.goal) {
                    me.came = q;
                }
                line.strength = Math.max(0, line.strength - 1);
                drop(walkers);
            }
        } else if (me.point != one.goal && q > one.start) {
            List<Integer> best = bestWay(world.lines, me.point, one.goal, 1 << me.point);
            if (best == null) {
                me.waited++;
                return;
            }
            me.on = world.lines.get(best.get(0));
            me.left = me.on.yards;
            me.next = me.on.a + me.on.b - me.point;
            me.point = null;
        }
    }

    int where(int p, int q) {
        if (!in(p, w.people.size()) || !in(q, 61)) {
            return BAD;
        }
        Run r = run(q, 0);
        Walker walker = r.walkers.get(p);
        if (walker.lost) {
            return NONE;
        }
        return walker.on != null ? 100 + r.world.lines.indexOf(walker.on) : walker.point;
    }

    int strength(int l, int q) {
        return isLine(l) && in(q, 61) ? run(q, 0).world.lines.get(l).strength : BAD;
    }

    int comes(int p) {
        return in(p, w.people.size()) ? run(60, 0).walkers.get(p).came : BAD;
    }

    int waited(int p, int q) {
        return in(p, w.people.size()) && in(q, 61) ? run(q, 0).walkers.get(p).waited : BAD;
    }

    private int lostIn(Run r) {
        int bits = 0;
        for (int p = 0; p < r.walkers.size(); p++) {
            bits += r.walkers.get(p).lost ? 1 << p : 0;
        }
        return bits;
    }

    int lost(int q) {
        return in(q, 61) ? lostIn(run(q, 0)) : BAD;
    }

    int storm(int q) {
        if (!in(q, 61)) {
            return BAD;
        }
        Run r = run(q, 0);
        int before = lostIn(r);
        for (Line line : r.world.lines) {
            line.strength = line.roof ? line.strength : 0;
        }
        drop(r.walkers);
        return lostIn(r) - before;
    }

    int worst(int what) {
        if (!in(what, 2)) {
            return BAD;
        }
        int told = Integer.bitCount(lostIn(run(60, 0)));
        int most = told;
        int first = NONE;
        for (int q = 40; q >= 1; q--) {
            int many = Integer.bitCount(lostIn(run(60, q)));
            if (many > told && many >= most) {
                most = many;
                first = q;
            }
        }
        return first == NONE ? NONE : what == 0 ? first : most;
    }

    // ---- dawns

    private int best(int what, boolean sure) {
        if (!in(what, 2)) {
            return BAD;
        }
        int bestYards = Integer.MAX_VALUE;
        int best = NONE;
        for (int some = (1 << w.lines.size()) - 1; some >= 0; some--) {
            if ((some & whole()) != 0) {
                continue;
            }
            int yards = 0;
            for (int l = 0; l < w.lines.size(); l++) {
                yards += (some >> l & 1) * w.lines.get(l).yards;
            }
            if (yards > bestYards) {
                continue;
            }
            boolean good = meets(some | whole());
            for (int l = 0; sure && good && l < w.lines.size(); l++) {
                good = meets((some | whole()) & ~(1 << l));
            }
            if (good) {
                bestYards = yards;
                best = some;
            }
        }
        return best == NONE ? NONE : what == 0 ? bestYards : best;
    }

    int dawn(int what) {
        return best(what, false);
    }

    int sure(int what) {
        return best(what, true);
    }

    /** Counts through all ways of giving them out, the last LINE the fastest. */
    int share(int some, int what) {
        if (!areLines(some) || Integer.bitCount(some) > 8 || !in(what, 2) && !isLine(what - 10)) {
            return BAD;
        }
        List<Integer> lines = new ArrayList<>();
        for (int l = 0; l < w.lines.size(); l++) {
            if ((some >> l & 1) != 0) {
                lines.add(l);
            }
        }
        int n = w.chalk.size();
        long ways = Math.round(Math.pow(n, lines.size()));
        int[] best = null;
        int bestWho = 0;
        for (long i = 0; i < ways; i++) {
            int[] given = new int[lines.size()];
            long rest = i;
            int who = 0;
            int[] used = new int[n];
            for (int k = lines.size() - 1; k >= 0; k--) {
                given[k] = (int) (rest % n);
                rest /= n;
                who |= 1 << given[k];
                used[given[k]] += w.lines.get(lines.get(k)).yards;
            }
            boolean can = true;
            for (int d = 0; d < n; d++) {
                can &= used[d] <= w.chalk.get(d);
            }
            int fewer = Integer.compare(Integer.bitCount(who), Integer.bitCount(bestWho));
            if (can && (best == null || fewer < 0 || fewer == 0 && who < bestWho)) {
                best = given;
                bestWho = who;
            }
        }
        if (best == null) {
            return NONE;
        }
        if (what < 2) {
            return what == 0 ? Integer.bitCount(bestWho) : bestWho;
        }
        int k = lines.indexOf(what - 10);
        return k < 0 ? NONE : best[k];
    }

    // ---- breaks

    int hear(int some, boolean came) {
        if (!areLines(some) || some == 0) {
            return BAD;
        }
        if (w.heard.size() == 8) {
            return FULL;
        }
        w.heard.add(new Heard(some, came));
        return w.heard.size();
    }

    int forget(int n) {
        int before = w.heard.size();
        if (!in(n, before + 1)) {
            return BAD;
        }
        w.heard.subList(n, before).clear();
        return before;
    }

    private List<Integer> allBreaks(List<Heard> heard) {
        List<Integer> all = new ArrayList<>();
        for (int broken = 0; broken < 1 << w.lines.size(); broken++) {
            boolean is = true;
            for (Heard h : heard) {
                is &= h.came == ((h.some & broken) == 0);
            }
            if (is) {
                all.add(broken);
            }
        }
        return all;
    }

    int breaks(int what) {
        if (!in(what, 4)) {
            return BAD;
        }
        List<Integer> all = allBreaks(w.heard);
        if (what == 0) {
            return all.size();
        }
        int fewest = all.stream().mapToInt(Integer::bitCount).min().orElse(NONE);
        List<Integer> small = all.stream().filter(b -> Integer.bitCount(b) == fewest).toList();
        if (what == 3) {
            return small.size();
        }
        return small.isEmpty() ? NONE : what == 1 ? fewest : small.get(0);
    }

    int known(int what) {
        if (!in(what, 2)) {
            return BAD;
        }
        List<Integer> all = allBreaks(w.heard);
        if (all.isEmpty()) {
            return NONE;
        }
        int bits = 0;
        for (int l = 0; l < w.lines.size(); l++) {
            int bit = 1 << l;
            if (what == 0 ? all.stream().allMatch(b -> (b & bit) != 0) : all.stream().noneMatch(b -> (b & bit) != 0)) {
                bits += bit;
            }
        }
        return bits;
    }

    int ask(int what) {
        if (!in(what, 2)) {
            return BAD;
        }
        int now = allBreaks(w.heard).size();
        int best = NONE;
        int ruledOut = 0;
        for (int l = 0; l < w.lines.size(); l++) {
            int least = now;
            for (boolean came : new boolean[] {false, true}) {
                List<Heard> heard = new ArrayList<>(w.heard);
                heard.add(new Heard(1 << l, came));
                least = Math.min(least, now - allBreaks(heard).size());
            }
            if (least > ruledOut) {
                ruledOut = least;
                best = l;
            }
        }
        return best == NONE ? NONE : what == 0 ? best : now - ruledOut;
    }

    // ---- images, sheets

    int keep(int k) {
        if (!in(k, 2)) {
            return BAD;
        }
        int before = images[k] == null ? 0 : 1;
        images[k] = w.copy();
        return before;
    }

    int back(int k) {
        if (!in(k, 2)) {
            return BAD;
        }
        if (images[k] == null) {
            return STATE;
        }
        w = images[k].copy();
        return w.lines.size();
    }

    int sheet(int k, int lane, int n) {
        if (!in(k, 4) || !in(lane, 3) || n > 40) {
            return BAD;
        }
        if (n < 0) {
            return -14;
        }
        sheets[k] = lane == 0 ? new byte[n] : lane == 1 ? new short[n] : new int[n];
        return 1;
    }

    /** Here the machine itself may find the FAULT. */
    int lay(int k, int i, int v) {
        if (!in(k, 4)) {
            return BAD;
        }
        try {
            if (sheets[k] instanceof byte[] bytes) {
                bytes[i] = (byte) v;
            } else if (sheets[k] instanceof short[] shorts) {
                shorts[i] = (short) v;
            } else {
                ((int[]) sheets[k])[i] = v;
            }
        } catch (NullPointerException e) {
            return -11;
        } catch (ArrayIndexOutOfBoundsException e) {
            return -12;
        }
        return 1;
    }

    private int cell(int k, int lane, int i) {
        return lane == 0 ? ((byte[]) sheets[k])[i] : lane == 1 ? ((short[]) sheets[k])[i] : ((int[]) sheets[k])[i];
    }

    int read(int k, int lane, int f, int n) {
        if (!in(k, 4) || !in(lane, 3) || !in(n, 9)) {
            return BAD;
        }
        List<Heard> before = new ArrayList<>(w.heard);
        int found = 0;
        int came = 0;
        try {
            for (; came < n; came++) {
                int some = cell(k, lane, f + 2 * came);
                int is = cell(k, lane, f + 2 * came + 1);
                if (is != 0 && is != 1 || hear(some, is == 1) < 0) {
                    w.heard = before;
                    return -20 - came;
                }
            }
        } catch (NullPointerException e) {
            found = 1;
        } catch (ArrayIndexOutOfBoundsException e) {
            found = 2;
        } catch (ClassCastException e) {
            found = 3;
        }
        torn = found;
        return came;
    }

    int torn() {
        return torn;
    }

    int count(int what) {
        if (what == 4) {
            return sheets[0] == null ? NONE : java.lang.reflect.Array.getLength(sheets[0]);
        }
        int kept = (images[0] == null ? 0 : 1) + (images[1] == null ? 0 : 1);
        int[] all = {Integer.bitCount(whole()), w.heard.size(), kept, tape.length()};
        return in(what, 4) ? all[what] : BAD;
    }
}
