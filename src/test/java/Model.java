import java.util.ArrayList;
import java.util.Arrays;
import java.util.List;

/**
 * The document once more, in its plainest form, with whatever the Java library has:
 * StruckWhile is compared with it call by call. It shares no code and no way of holding things with it.
 */
final class Model {
    static final long NO = Long.MIN_VALUE;

    static class One implements Cloneable {
        int kind;
        int number;
        int v;
        int heat;
        boolean away;
        int[] row = new int[4];

        int rise(World w) {
            return w.sum(this);
        }

        int glows(int x, List<Integer> t) {
            t.add(10);
            return x + number;
        }

        int rings(int x, List<Integer> t) {
            t.add(11);
            return glows(x, t) - v;
        }

        int tells(int x, List<Integer> t) {
            t.add(12);
            return rings(x, t) * 2;
        }

        One copy() {
            try {
                One c = (One) clone();
                c.row = row.clone();
                return c;
            } catch (CloneNotSupportedException e) {
                throw new IllegalStateException(e);
            }
        }
    }

    static class Banker extends One {
        @Override int rise(World w) {
            return super.rise(w) - (heat >= 50 ? 3 : 0);
        }

        @Override int rings(int x, List<Integer> t) {
            t.add(20);
            return super.rings(x, t) ^ 6;
        }
    }

    static class Girl extends One {
        @Override int rise(World w) {
            return super.rise(w) + (w.minute % 3 == 0 ? 5 : 0);
        }

        @Override int glows(int x, List<Integer> t) {
            t.add(30);
            return super.glows(x * 3, t);
        }
    }

    static class Rector extends One {
        @Override int rise(World w) {
            int sum = super.rise(w);
            return sum < 0 ? -(-sum / 2) : sum / 2;
        }

        @Override int tells(int x, List<Integer> t) {
            t.add(40);
            int first = super.tells(x, t);
            return first + rings(1, t);
        }
    }

    static final class Lover extends Banker {
        @Override int rise(World w) {
            return super.rise(w) + v;
        }

        @Override int glows(int x, List<Integer> t) {
            t.add(50);
            return -super.glows(x, t);
        }

        @Override int rings(int x, List<Integer> t) {
            t.add(51);
            return super.rings(x + 1, t);
        }
    }

    static final class Crowd extends Girl {
        @Override int rise(World w) {
            return super.rise(w) + 2 * w.beside(this, 50).size();
        }

        @Override int tells(int x, List<Integer> t) {
            t.add(60);
            return super.tells(x - number, t);
        }
    }

    static final class Told extends Rector {
        @Override int rise(World w) {
            return super.rise(w) + row[w.minute % 4];
        }

        @Override int rings(int x, List<Integer> t) {
            t.add(70);
            int first = super.rings(x, t);
            return first + super.glows(2, t);
        }

        @Override int glows(int x, List<Integer> t) {
            t.add(71);
            return super.glows(x, t) ^ v;
        }
    }

    static final class Work {
        int needs;
        int due;
        int struck;

        boolean done() {
            return struck >= needs;
        }
    }

    static final class World {
        List<One> people = new ArrayList<>();
        List<Work> works = new ArrayList<>();
        int anvil = -1;
        int minute;
        String text = "";
        List<int[]> seen = new ArrayList<>();
        List<int[]> plan = new ArrayList<>();
        List<int[]> book = new ArrayList<>();

        World copy() {
            World c = new World();
            for (One p : people) {
                c.people.add(p.copy());
            }
            for (Work w : works) {
                Work k = new Work();
                k.needs = w.needs;
                k.due = w.due;
                k.struck = w.struck;
                c.works.add(k);
            }
            c.anvil = anvil;
            c.minute = minute;
            c.text = text;
            c.seen = new ArrayList<>(seen);
            c.plan = new ArrayList<>(plan);
            c.book = new ArrayList<>(book);
            return c;
        }

        World bare() {
            World c = copy();
            c.anvil = -1;
            return c;
        }

        List<One> beside(One one, int least) {
            List<One> all = new ArrayList<>();
            for (One p : people) {
                if (Math.abs(p.number - one.number) == 1 && !p.away && p.heat >= least) {
                    all.add(p);
                }
            }
            return all;
        }

        List<One> here() {
            List<One> all = new ArrayList<>();
            for (One p : people) {
                if (!p.away) {
                    all.add(p);
                }
            }
            return all;
        }

        One hottest() {
            One best = null;
            for (One p : here()) {
                if (best == null || p.heat > best.heat) {
                    best = p;
                }
            }
            return best;
        }

        int spark() {
            int spark = 80;
            for (String clause : text.split(";")) {
                if (clause.startsWith("spark ")) {
                    spark = Integer.parseInt(clause.substring(6));
                }
            }
            return spark;
        }

        int sum(One one) {
            int sum = 0;
            for (String clause : text.split(";")) {
                String[] parts = clause.split(" ");
                if (parts.length == 3 && so(parts[2], one)) {
                    sum += (parts[0].equals("heat") ? 1 : -1) * Integer.parseInt(parts[1]);
                }
            }
            return sum;
        }

        /** Splits at the first sign outside all (), else goes inside. */
        boolean so(String e, One one) {
            int or = outside(e, '|');
            if (or >= 0) {
                return so(e.substring(0, or), one) | so(e.substring(or + 1), one);
            }
            int and = outside(e, '&');
            if (and >= 0) {
                return so(e.substring(0, and), one) & so(e.substring(and + 1), one);
            }
            if (e.charAt(0) == '!') {
                return !so(e.substring(1), one);
            }
            if (e.charAt(0) == '(') {
                return so(e.substring(1, e.length() - 1), one);
            }
            int has;
            switch (e.charAt(0)) {
                case 'p': has = one.number; break;
                case 'k': has = one.kind; break;
                case 'v': has = one.v; break;
                case 'h': has = one.heat / 10; break;
                case 'n': has = beside(one, 50).size(); break;
                default: has = minute % 10; break;
            }
            int n = Integer.parseInt(e.substring(2));
            char c = e.charAt(1);
            return c == '<' ? has < n : c == '=' ? has == n : has > n;
        }

        static int outside(String e, char sign) {
            int open = 0;
            for (int i = 0; i < e.length(); i++) {
                char c = e.charAt(i);
                open += c == '(' ? 1 : c == ')' ? -1 : 0;
                if (open == 0 && c == sign) {
                    return i;
                }
            }
            return -1;
        }

        void go() {
            World ahead = copy();
            One giver = anvil >= 0 && !works.get(anvil).done() ? hottest() : null;
            for (One p : people) {
                One before = ahead.people.get(p.number);
                if (p == giver) {
                    Work w = works.get(anvil);
                    w.struck = Math.min(9999, w.struck + before.heat);
                    p.heat = 0;
                } else if (!p.away) {
                    int heat = before.heat + before.rise(ahead) + 10 * ahead.beside(before, ahead.spark()).size();
                    p.heat = heat < 0 ? 0 : heat > 99 ? 99 : heat;
                }
            }
            minute++;
        }

        World goes(int n) {
            for (int i = 0; i < n; i++) {
                go();
            }
            return this;
        }

        int doneBits() {
            int bits = 0;
            for (int w = 0; w < works.size(); w++) {
                bits += works.get(w).done() ? 1 << w : 0;
            }
            return bits;
        }

        int together() {
            return people.stream().mapToInt(p -> p.heat).sum();
        }

        int index(One p) {
            return p == null ? -5 : p.number;
        }
    }

    World now = new World();
    World image;
    String fed = "";
    int squares;
    List<Integer> ran = new ArrayList<>();
    int[] sorts = {-1, -1, -1, -1, -1, -1};
    Object[] tapes = new Object[6];

    boolean isOne(int p) {
        return p >= 0 && p < now.people.size();
    }

    boolean isWork(int w) {
        return w >= 0 && w < now.works.size();
    }

    int one(int kind, int v, int heat) {
        if (kind < 0 || kind > 6) return -1;
        if (v < 0 || v > 9 || heat < 0 || heat > 99) return -2;
        if (now.people.size() == 6) return -4;
        One[] kinds = {new One(), new Banker(), new Girl(), new Rector(), new Lover(), new Crowd(), new Told()};
        One one = kinds[kind];
        one.kind = kind;
        one.number = now.people.size();
        one.v = v;
        one.heat = heat;
        now.people.add(one);
        return one.number;
    }

    int of(int person, int what) {
        if (!isOne(person) || what < 0 || what > 5) return -10001;
        One p = now.people.get(person);
        int[] all = {p.kind, p.v, p.heat, p.away ? 1 : 0, p.rise(now), now.beside(p, 50).size()};
        return all[what];
    }

    int heat(int person, int n) {
        if (!isOne(person)) return -1;
        if (n < 0 || n > 99) return -2;
        int was = now.people.get(person).heat;
        now.people.get(person).heat = n;
        return was;
    }

    int away(int person, boolean is) {
        if (!isOne(person)) return -1;
        boolean was = now.people.get(person).away;
        now.people.get(person).away = is;
        return was ? 1 : 0;
    }

    int work(int needs, int due) {
        if (needs < 1 || needs > 999 || due < 0 || due > 60) return -2;
        if (now.works.size() == 4) return -4;
        Work w = new Work();
        w.needs = needs;
        w.due = due;
        now.works.add(w);
        return now.works.size() - 1;
    }

    int piece(int work, int what) {
        if (!isWork(work) || what < 0 || what > 4) return -1;
        Work w = now.works.get(work);
        int ready = -5;
        for (int n = 60; n >= 0 && what == 4; n--) {
            World then = now.copy();
            then.anvil = work;
            if (then.goes(n).works.get(work).done()) ready = n;
        }
        int[] all = {w.needs, w.due, w.struck, w.done() ? 1 : 0, ready};
        return all[what];
    }

    int anvil(int work) {
        if (work != -1 && !isWork(work)) return -1;
        int was = now.anvil == -1 ? -5 : now.anvil;
        now.anvil = work;
        return was;
    }

    int row(int person, int part, int n) {
        if (!isOne(person) || part < 0 || part > 3) return -1;
        if (n < 0 || n > 9) return -2;
        One p = now.people.get(person);
        if (!(p instanceof Told)) return -3;
        int was = p.row[part];
        p.row[part] = n;
        return was;
    }

    int feed(int sign) {
        if (sign < 0 || sign > 127) return -2;
        if (fed.length() == 100) return -4;
        fed += (char) sign;
        return fed.length();
    }

    int square() {
        if (squares == 6) return -4;
        int fault = Grammar.fault(fed);
        if (fault < 0) now.text = fed;
        fed = "";
        return fault >= 0 ? -10 - fault : squares++;
    }

    int told(int what) {
        if (what < 0 || what > 5) return -1;
        int[] all = {now.minute, now.spark(), now.anvil < 0 ? -5 : now.anvil, now.doneBits(), now.index(now.hottest()),
            now.together()};
        return all[what];
    }

    int pass(int n) {
        if (n < 0 || n > 60) return -2;
        if (now.minute + n > 9999) return -3;
        return now.goes(n).minute;
    }

    int on(int n, int what) {
        boolean ofOne = what >= 10 && what < 20 && isOne(what - 10);
        boolean ofWork = what >= 20 && what < 30 && isWork(what - 20);
        if (what != 0 && !ofOne && !ofWork) return -1;
        if (n < 0 || n > 60) return -2;
        World then = now.copy().goes(n);
        return ofOne ? then.people.get(what - 10).heat : ofWork ? then.works.get(what - 20).struck : then.doneBits();
    }

    void rows(List<Integer> row, List<List<Integer>> all) {
        if (row.size() == now.works.size()) all.add(new ArrayList<>(row));
        for (int w = 0; w < now.works.size(); w++) {
            if (!row.contains(w)) {
                row.add(w);
                rows(row, all);
                row.remove(row.size() - 1);
            }
        }
    }

    int doneInTime(List<Integer> row, int n) {
        World then = now.copy();
        int inTime = then.doneBits();
        for (int m = 1; m <= n; m++) {
            then.anvil = -1;
            for (int i = row.size() - 1; i >= 0; i--) {
                if (!then.works.get(row.get(i)).done()) then.anvil = row.get(i);
            }
            then.go();
            for (int w = 0; w < then.works.size(); w++) {
                if (then.works.get(w).done() && m <= then.works.get(w).due) inTime |= 1 << w;
            }
        }
        return Integer.bitCount(inTime);
    }

    int best(int n, int k) {
        if (k < -1 || k > 3) return -1;
        if (n < 0 || n > 40) return -2;
        List<List<Integer>> all = new ArrayList<>();
        rows(new ArrayList<>(), all);
        int most = -1;
        List<Integer> best = List.of();
        for (List<Integer> row : all) {
            int done = doneInTime(row, n);
            if (done > most) {
                most = done;
                best = row;
            }
        }
        return k == -1 ? most : k < best.size() ? best.get(k) : -5;
    }

    int talk(int n, int what) {
        if (what < 0 || what > 1) return -1;
        if (n < 0 || n > 99) return -2;
        int[] best = {-5, -5};
        for (One p : now.here()) {
            World then = now.bare();
            then.people.get(p.number).heat = Math.min(99, p.heat + n);
            int heat = then.goes(3).hottest().heat;
            if (heat > best[1]) best = new int[] {p.number, heat};
        }
        return best[what];
    }

    int see(int person, int n, boolean isHot) {
        if (person == -1) now.seen.clear();
        if (person == -1) return 0;
        if (!isOne(person)) return -1;
        if (n < 0 || n > 12) return -2;
        if (now.seen.size() == 5) return -4;
        now.seen.add(new int[] {person, n, isHot ? 1 : 0});
        return now.seen.size();
    }

    boolean allSeen(World start) {
        for (int[] row : now.seen) {
            boolean hot = start.copy().goes(row[1]).people.get(row[0]).heat >= 50;
            if (hot != (row[2] == 1)) return false;
        }
        return true;
    }

    int can(int person, int which, int what) {
        if (!isOne(person) || which < 0 || which > 1 || what < 0 || what > 1) return -1;
        List<Integer> fit = new ArrayList<>();
        for (int n = 0; n < (which == 0 ? 100 : 10); n++) {
            World start = now.bare();
            if (which == 0) start.people.get(person).heat = n;
            else start.people.get(person).v = n;
            if (allSeen(start)) fit.add(n);
        }
        return what == 0 ? fit.size() : fit.isEmpty() ? -5 : fit.get(0);
    }

    long fraction(int above, int below, int part) {
        if (below == 0) return NO;
        int d = java.math.BigInteger.valueOf(above).gcd(java.math.BigInteger.valueOf(below)).intValue();
        return part == 0 ? above / d : below / d;
    }

    long odds(int person, int n, int part) {
        if (!isOne(person) || n < 0 || n > 20 || part < 0 || part > 1) return NO;
        int hot = 0;
        for (One p : now.here()) {
            World then = now.bare();
            then.people.get(p.number).heat = Math.min(99, p.heat + 20);
            hot += then.goes(n).people.get(person).heat >= 50 ? 1 : 0;
        }
        return fraction(hot, now.here().size(), part);
    }

    long mean(int n, int part) {
        if (n < 0 || n > 60 || part < 0 || part > 1) return NO;
        return fraction(now.copy().goes(n).together(), now.people.size(), part);
    }

    int plan(int what, int n) {
        if (what == -1) now.plan.clear();
        if (what == -1) return 0;
        if (what < 0 || what > 3) return -1;
        if ((what == 1 || what == 2) && !isOne(n)) return -1;
        if (what == 3 && !isWork(n)) return -1;
        if (now.plan.size() == 10) return -4;
        now.plan.add(new int[] {what, n});
        return now.plan.size();
    }

    int ends(int what) {
        if (what < 0 || what > 1) return -1;
        World then = now.copy();
        for (int[] row : now.plan) {
            if (row[0] == 0) then.go();
            if (row[0] == 1) then.people.get(row[1]).away = true;
            if (row[0] == 2) then.people.get(row[1]).away = false;
            if (row[0] == 3) then.anvil = row[1];
        }
        return what == 0 ? then.together() : then.doneBits();
    }

    int book(int person, int heat) {
        if (person == -1) now.book.clear();
        if (person == -1) return 0;
        if (!isOne(person)) return -1;
        if (heat < 0 || heat > 99) return -2;
        if (now.book.size() == 8) return -4;
        now.book.add(new int[] {person, heat});
        return now.book.size();
    }

    int looked() {
        for (int i = 0; i < now.book.size(); i++) {
            if (now.people.get(now.book.get(i)[0]).heat != now.book.get(i)[1]) return i;
        }
        return -5;
    }

    int judge(int tape, int i) {
        if (tape < 0 || tape > 5) return -1;
        if (tapes[tape] != null && !(tapes[tape] instanceof byte[])) return -12;
        if (now.people.isEmpty()) return -5;
        byte[] row = tapes[tape] == null || i < 0 ? new byte[0] : (byte[]) tapes[tape];
        int looked = 0;
        for (long place = Math.max(0, i); place < row.length && looked < now.people.size(); place++) {
            if (row[(int) place] != now.people.get(looked).heat) return looked;
            looked++;
        }
        return looked == now.people.size() ? -5 : 100 + looked;
    }

    int image() {
        image = now.copy();
        return now.people.size();
    }

    int undo() {
        if (image == null) return -3;
        now = image.copy();
        return now.people.size();
    }

    int act(int person, int act, int x) {
        ran = new ArrayList<>();
        if (!isOne(person) || act < 0 || act > 2) return 0;
        One p = now.people.get(person);
        return act == 0 ? p.glows(x, ran) : act == 1 ? p.rings(x, ran) : p.tells(x, ran);
    }

    int trace(int i) {
        return i < 0 || i >= Math.min(20, ran.size()) ? -1 : ran.get(i);
    }

    int taken(int person, int k) {
        if (k < 0 || k > 6) return -2;
        if (!isOne(person)) return -11;
        Class<?>[] kinds = {One.class, Banker.class, Girl.class, Rector.class, Lover.class, Crowd.class, Told.class};
        One p = now.people.get(person);
        return kinds[k].isInstance(p) ? p.kind : -12;
    }

    int count(int what) {
        if (what < 0 || what > 7) return -2;
        int[] all = {now.people.size(), now.works.size(), squares, now.seen.size(), now.plan.size(), now.book.size(),
            fed.length(), ran.size()};
        return all[what];
    }

    int tape(int tape, int sort, int n) {
        if (tape < 0 || tape > 5) return -1;
        if (sort < -1 || sort > 4 || sort >= 0 && n > 60) return -2;
        if (sort >= 0 && n < 0) return -14;
        sorts[tape] = sort;
        Object[] made = sort < 0 ? null
            : new Object[] {new byte[n], new short[n], new int[n], new long[n], new boolean[n]};
        tapes[tape] = made == null ? null : made[sort];
        return 1;
    }

    int length(int tape) {
        return java.lang.reflect.Array.getLength(tapes[tape]);
    }

    int item(int tape, int i, long v) {
        if (tape < 0 || tape > 5) return -1;
        if (tapes[tape] == null) return -11;
        if (i < 0 || i >= length(tape)) return -13;
        if (sorts[tape] == 0) ((byte[]) tapes[tape])[i] = (byte) v;
        if (sorts[tape] == 1) ((short[]) tapes[tape])[i] = (short) v;
        if (sorts[tape] == 2) ((int[]) tapes[tape])[i] = (int) v;
        if (sorts[tape] == 3) ((long[]) tapes[tape])[i] = v;
        if (sorts[tape] == 4) ((boolean[]) tapes[tape])[i] = v != 0;
        return 1;
    }

    long read(int tape, int i) {
        if (tape < 0 || tape > 5 || tapes[tape] == null || i < 0 || i >= length(tape)) return NO;
        if (sorts[tape] == 4) return ((boolean[]) tapes[tape])[i] ? 1 : 0;
        return java.lang.reflect.Array.getLong(tapes[tape], i);
    }

    int shift(int tape, int i, int other, int j, int n) {
        if (tape < 0 || tape > 5 || other < 0 || other > 5) return -1;
        if (tapes[tape] == null || tapes[other] == null) return -11;
        if (sorts[tape] != sorts[other]) return -12;
        if (n < 0 || i < 0 || j < 0 || (long) i + n > length(tape) || (long) j + n > length(other)) return -13;
        long[] all = new long[n];
        for (int k = 0; k < n; k++) {
            all[k] = read(tape, i + k);
        }
        for (int k = 0; k < n; k++) {
            item(other, j + k, all[k]);
        }
        return n;
    }

    @Override public String toString() {
        return "MINUTE " + now.minute + " tapes " + Arrays.toString(sorts);
    }
}
