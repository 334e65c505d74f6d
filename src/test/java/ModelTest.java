import java.math.BigInteger;
import java.util.ArrayList;
import java.util.HashSet;
import java.util.List;
import java.util.Random;
import java.util.Set;
import java.util.TreeMap;

/** Random runs of 512 calls (no more are promised), each answer beside that of a second program, slow and by the words. */
public final class ModelTest {
    private static final int NONE = -1, FULL = -2, STATE = -3, NOT = -4, BIG = -5, CAST = -6, NO_VALUE = -2000000000;
    private static final int RUNS = 4000;
    private static final int CALLS = 512;
    private static final int LOOKS = 110;

    /** A cost, whose kinds are Java classes: so super and overriding are Java's own. */
    static class Thing {
        int number, kind, film, episode, land, coins, day, who, receipt, sort;
        int auditedOn = 99999, less;
        int c;
        List<Integer> ran = new ArrayList<>();

        int coinsOn(int k) { return k >= auditedOn ? coins - less : coins; }
        int spends(int x) { ran.add(10); return x + c; }
        int counts(int x) { ran.add(11); return spends(x) * 2; }
        int proves(int x) { ran.add(12); return counts(x) - number; }
        boolean getsHouse() { return false; }
    }

    static class Wage extends Thing {
        @Override int counts(int x) { ran.add(20); return super.counts(x) ^ 9; }
    }

    static class Goods extends Thing {
        @Override int spends(int x) { ran.add(30); return super.spends(x) - 4; }
        @Override boolean getsHouse() { return true; }
    }

    static class Rent extends Goods {
        @Override int proves(int x) { ran.add(40); return super.proves(x) + counts(1); }
    }

    static class Fee extends Thing {
        @Override int counts(int x) { ran.add(50); return -super.counts(x); }
    }

    static class Lot extends Goods {
        @Override int spends(int x) { ran.add(60); return super.spends(x + 1); }
        @Override int proves(int x) { ran.add(61); return super.proves(x) * 3; }
    }

    static class Carriage extends Fee {
        @Override int counts(int x) { ran.add(70); return super.counts(x) - spends(2); }
    }

    static Thing thingOf(int kind) {
        switch (kind) {
            case 1: return new Wage();
            case 2: return new Goods();
            case 3: return new Rent();
            case 4: return new Fee();
            case 5: return new Lot();
            case 6: return new Carriage();
            default: return null;
        }
    }

    /** Works texts out straight from their letters. */
    static class Letters {
        final String s;
        int at;
        TreeMap<Character, Integer> names;
        boolean bad;

        Letters(String s, TreeMap<Character, Integer> names) {
            this.s = s;
            this.names = names;
        }

        char peek() { return at < s.length() ? s.charAt(at) : 0; }

        int e(int open) {
            int v = a(open);
            while (!bad && peek() == '|') {
                at++;
                int w = a(open);
                v = v != 0 | w != 0 ? 1 : 0;
            }
            return v;
        }

        int a(int open) {
            int v = b(open);
            while (!bad && peek() == '&') {
                at++;
                int w = b(open);
                v = v != 0 & w != 0 ? 1 : 0;
            }
            return v;
        }

        int b(int open) {
            int v = sum(open);
            char c = peek();
            if (bad || c != '<' && c != '=' && c != '>') {
                return v;
            }
            at++;
            int w = sum(open);
            return c == '<' && v < w || c == '=' && v == w || c == '>' && v > w ? 1 : 0;
        }

        int sum(int open) {
            int v = p(open);
            while (!bad && (peek() == '+' || peek() == '-')) {
                char c = s.charAt(at++);
                int w = p(open);
                v = c == '+' ? v + w : v - w;
            }
            return v;
        }

        int p(int open) {
            int v = o(open);
            while (!bad && (peek() == '*' || peek() == '/' || peek() == '%')) {
                char c = s.charAt(at++);
                int w = o(open);
                v = c == '*' ? v * w : w == 0 ? 0 : c == '/' ? v / w : v % w;
            }
            return v;
        }

        int o(int open) {
            char c = peek();
            if (c >= '0' && c <= '9') {
                int start = at;
                while (peek() >= '0' && peek() <= '9') {
                    at++;
                }
                if (at - start > 6) {
                    bad = true;
                    return 0;
                }
                return Integer.parseInt(s.substring(start, at));
            }
            if (c != 0 && names.containsKey(c)) {
                at++;
                return names.get(c);
            }
            if ((c == '!' || c == '(') && open < 8) {
                at++;
                int v = c == '!' ? o(open + 1) : e(open + 1);
                if (c == '!') {
                    return v == 0 ? 1 : 0;
                }
                if (peek() != ')') {
                    bad = true;
                }
                at++;
                return v;
            }
            bad = true;
            return 0;
        }
    }

    static TreeMap<Character, Integer> noNames() {
        TreeMap<Character, Integer> names = new TreeMap<>();
        for (char c : "kscelrypnj".toCharArray()) {
            names.put(c, 0);
        }
        return names;
    }

    /** {value, line} of a text; null, if it is none. */
    static int[] work(String text, TreeMap<Character, Integer> names) {
        String[] lines = text.split(";", -1);
        int[] found = null;
        for (int i = 0; i < lines.length; i++) {
            Letters in = new Letters(lines[i], names);
            int first = in.e(0);
            int then = first;
            boolean takes = true;
            if (!in.bad && in.peek() == '?') {
                in.at++;
                then = in.e(0);
                takes = first != 0;
            }
            if (in.bad || in.at != lines[i].length()) {
                return null;
            }
            if (takes && found == null) {
                found = new int[] {then, i};
            }
        }
        return found == null ? new int[] {0, -1} : found;
    }

    /** Whether some text begins with this. */
    static boolean goesOn(String start) {
        StringBuilder end = new StringBuilder();
        for (int open = 0; open <= 8; open++) {
            if (work(start + end, noNames()) != null || work(start + "0" + end, noNames()) != null) {
                return true;
            }
            end.append(')');
        }
        return false;
    }

    static int faultOf(String text) {
        if (work(text, noNames()) != null) {
            return -1;
        }
        for (int i = 0; i < text.length(); i++) {
            if (!goesOn(text.substring(0, i + 1))) {
                return i;
            }
        }
        return text.length();
    }

    /** The document's terms, once more. */
    static class Model {
        int today;
        List<int[]> coins = new ArrayList<>();
        List<Integer> houseLand = new ArrayList<>();
        long[] purse = new long[20];
        List<int[]> relations = new ArrayList<>();
        List<int[]> films = new ArrayList<>();
        List<Integer> homes = new ArrayList<>();
        List<int[]> stays = new ArrayList<>();
        List<int[]> points = new ArrayList<>();
        int[] draft = new int[7];
        List<Thing> things = new ArrayList<>();
        List<int[]> likes = new ArrayList<>();
        StringBuilder tape = new StringBuilder();
        List<String> texts = new ArrayList<>();
        List<int[]> acts = new ArrayList<>();
        int[][] caps = new int[6][10];
        List<int[]> certificates = new ArrayList<>();
        List<int[]> loans = new ArrayList<>();
        List<int[]> moves = new ArrayList<>();
        List<Integer> chosen = new ArrayList<>();
        int lost;
        int z = 1;
        int tried = -1;
        List<Integer> trace = new ArrayList<>();
        int line;

        Model() {
            for (int[] row : caps) {
                java.util.Arrays.fill(row, 99999999);
            }
        }

        boolean land(int v) { return 0 <= v && v < 6; }
        boolean day(int v) { return 0 <= v && v < 3600; }
        boolean in(int v, int a, int b) { return a <= v && v <= b; }

        int days(int n) {
            if (!in(n, 1, 360) || today + n > 3599) return NONE;
            return today += n;
        }

        int coin(int land, int day, int v) {
            if (!land(land) || !day(day) || !in(v, 1, 99999)) return NONE;
            int n = 0;
            for (int[] c : coins) if (c[0] == land) n++;
            if (n == 20) return FULL;
            coins.add(new int[] {land, day, v});
            return n + 1;
        }

        int coinOn(int land, int day) {
            if (!land(land) || !day(day)) return NONE;
            for (int d = day; d >= 0; d--) {
                for (int i = coins.size() - 1; i >= 0; i--) {
                    if (coins.get(i)[0] == land && coins.get(i)[1] == d) return coins.get(i)[2];
                }
            }
            return 1000;
        }

        int house(int land) {
            if (!land(land)) return NONE;
            if (houseLand.size() == 20) return FULL;
            houseLand.add(land);
            return houseLand.size() - 1;
        }

        boolean isHouse(int h) { return in(h, 0, houseLand.size() - 1); }
        boolean isFilm(int f) { return in(f, 0, films.size() - 1); }
        boolean isPerson(int p) { return in(p, 0, homes.size() - 1); }

        boolean related(int a, int b, int k) {
            for (int[] r : relations) {
                if (r[2] <= k && (r[0] == a && r[1] == b || r[0] == b && r[1] == a)) return true;
            }
            return false;
        }

        int relate(int a, int b) {
            if (!isHouse(a) || !isHouse(b) || a == b) return NONE;
            if (related(a, b, 3599)) return STATE;
            relations.add(new int[] {a, b, today});
            return 1;
        }

        int film(int h, int episodes) {
            if (!isHouse(h) || !in(episodes, 1, 9)) return NONE;
            if (films.size() == 20) return FULL;
            films.add(new int[] {h, episodes});
            return films.size() - 1;
        }

        int sell(int f, int h) {
            if (!isFilm(f) || !isHouse(h) || films.get(f)[0] == h) return NONE;
            int was = films.get(f)[0];
            films.get(f)[0] = h;
            return was;
        }

        int person(int land) {
            if (!land(land)) return NONE;
            if (homes.size() == 60) return FULL;
            homes.add(land);
            return homes.size() - 1;
        }

        int stay(int p, int land, int from, int to) {
            if (!isPerson(p) || !land(land) || !day(from) || !day(to) || to < from) return NONE;
            if (stays.size() == 200) return FULL;
            stays.add(new int[] {p, land, from, to, today});
            return stays.size();
        }

        int lives(int p, int land, int d, int k) {
            if (!isPerson(p) || !land(land) || !day(d) || !day(k)) return NONE;
            int n = 0;
            for (int day = d - 359; day <= d; day++) {
                int at = homes.get(p);
                for (int i = stays.size() - 1; i >= 0; i--) {
                    int[] s = stays.get(i);
                    if (s[0] == p && s[4] <= k && s[2] <= day && day <= s[3]) {
                        at = s[1];
                        break;
                    }
                }
                if (at == land) n++;
            }
            return n >= 183 ? 1 : 0;
        }

        int point(int f, int land, int n) {
            if (!isFilm(f) || !land(land) || !in(n, 1, 20)) return NONE;
            if (points.size() == 100) return FULL;
            points.add(new int[] {f, land, n, -1});
            return points.size() - 1;
        }

        int prove(int i) {
            if (!in(i, 0, points.size() - 1)) return NONE;
            if (points.get(i)[3] >= 0) return STATE;
            points.get(i)[3] = today;
            return 1;
        }

        int points(int f, int land, int k) {
            if (!isFilm(f) || !land(land) || !day(k)) return NONE;
            int sum = 0;
            for (int[] p : points) {
                if (p[0] == f && p[1] == land && p[3] >= 0 && p[3] <= k) sum += p[2];
            }
            return sum;
        }

        int set(int what, int v) {
            if (!in(what, 0, 6) || !in(v, 0, 99999)) return NONE;
            int was = draft[what];
            draft[what] = v;
            return was;
        }

        int cost(int kind, int coins) {
            Thing t = thingOf(kind);
            if (t == null || !in(coins, 1, 99999) || !isFilm(draft[0])) return NONE;
            if (draft[1] >= films.get(draft[0])[1] || !land(draft[2]) || draft[3] > today) return NONE;
            if (t.getsHouse() ? !isHouse(draft[4]) : !isPerson(draft[4])) return NONE;
            if (draft[5] < 1 || draft[6] > 19) return NONE;
            if (things.size() == 150) return FULL;
            t.number = things.size();
            t.kind = kind;
            t.coins = coins;
            t.film = draft[0];
            t.episode = draft[1];
            t.land = draft[2];
            t.day = draft[3];
            t.who = draft[4];
            t.receipt = draft[5];
            t.sort = draft[6];
            things.add(t);
            return t.number;
        }

        boolean isCost(int c) { return in(c, 0, things.size() - 1); }

        int of(int c, int what) {
            if (!isCost(c) || !in(what, 0, 9)) return NO_VALUE;
            Thing t = things.get(c);
            int state = t.auditedOn > 3599 ? 0 : t.less == 0 ? 1 : 2;
            return new int[] {t.kind, t.film, t.episode, t.land, t.coinsOn(today), t.day, t.who, t.receipt, t.sort,
                state}[what];
        }

        int like(int sort, int land, int day, int price) {
            if (!in(sort, 0, 19) || !land(land) || !in(day, 0, today) || !in(price, 1, 99999)) return NONE;
            if (likes.size() == 120) return FULL;
            likes.add(new int[] {sort, land, day, price, today});
            return likes.size();
        }

        List<Integer> near(Thing t, int k) {
            List<Integer> all = new ArrayList<>();
            for (int[] l : likes) {
                if (l[0] == t.sort && l[1] == t.land && l[4] <= k && l[2] - t.day <= 90 && t.day - l[2] <= 90) {
                    all.add(l[3]);
                }
            }
            all.sort(null);
            return all;
        }

        int span(int c, int k, int what) {
            if (!isCost(c) || !day(k) || !in(what, 0, 3)) return NONE;
            List<Integer> all = near(things.get(c), k);
            int n = all.size();
            if (what == 3) return n;
            if (n == 0) return NOT;
            return what == 0 ? all.get(0) : what == 1 ? all.get(n - 1) : all.get(n % 2 == 0 ? n / 2 - 1 : n / 2);
        }

        boolean isRelated(Thing t, int k) {
            return t.getsHouse() && related(t.who, films.get(t.film)[0], k);
        }

        int fair(Thing t, int k) {
            if (!isRelated(t, k)) return t.coinsOn(k);
            int middle = span(t.number, k, 2);
            return middle == NOT ? 0 : Math.min(middle, t.coinsOn(k));
        }

        boolean twin(Thing a, Thing b) {
            return a.receipt == b.receipt && (a.film != b.film || a.land != b.land);
        }

        boolean later(Thing t) {
            for (Thing u : things) {
                if (u.number < t.number && twin(u, t)) return true;
            }
            return false;
        }

        int inForce(int what, int d, int k) {
            if (!in(what, 0, 59) || what % 10 > 4 || !day(d) || !day(k)) return NONE;
            int best = NOT;
            for (int i = 0; i < acts.size(); i++) {
                int[] a = acts.get(i);
                if (a[0] == what && a[1] <= k && a[2] <= d && (best == NOT || a[1] >= acts.get(best)[1])) best = i;
            }
            return best;
        }

        TreeMap<Character, Integer> names(int f, int land, int d, int k) {
            TreeMap<Character, Integer> names = noNames();
            names.put('y', d / 360);
            names.put('p', points(f, land, k));
            names.put('n', films.get(f)[1]);
            Set<Integer> lands = new HashSet<>();
            for (Thing t : things) if (t.film == f) lands.add(t.land);
            names.put('j', lands.size());
            return names;
        }

        int textFor(int what, int d, int k) {
            return tried >= 0 && acts.get(tried)[0] == what ? tried : inForce(what, d, k);
        }

        int raw(int use, int land, int f, int d, int k) {
            int text = textFor(land * 10 + use, d, k);
            if (text == NOT) return new int[] {100, 30, 0, 99999999, 0}[use];
            return work(texts.get(text), names(f, land, d, k))[0];
        }

        int law(int land, int f, int d, int k, int use) {
            if (!land(land) || !isFilm(f) || !day(d) || !day(k) || !in(use, 1, 3)) return NONE;
            int v = raw(use, land, f, d, k);
            return v < 0 ? 0 : Math.min(v, use == 1 ? 100 : 99999999);
        }

        int countedOf(Thing t, int k) {
            line = -1;
            if (later(t) && raw(4, t.land, t.film, t.day, k) == 0) return 0;
            int hundredths = 100;
            int text = textFor(t.land * 10, t.day, k);
            if (text != NOT) {
                TreeMap<Character, Integer> names = names(t.film, t.land, t.day, k);
                names.put('k', t.kind);
                names.put('s', t.sort);
                names.put('c', t.coinsOn(k));
                boolean there = t.getsHouse() ? houseLand.get(t.who) == t.land : lives(t.who, t.land, t.day, k) == 1;
                names.put('l', there ? 1 : 0);
                names.put('r', isRelated(t, k) ? 1 : 0);
                names.put('e', t.episode);
                int[] found = work(texts.get(text), names);
                hundredths = Math.max(0, Math.min(100, found[0]));
                line = found[1];
            }
            BigInteger worth = BigInteger.valueOf(fair(t, k)).multiply(BigInteger.valueOf(coinOn(t.land, t.day)));
            worth = worth.divide(BigInteger.valueOf(1000)).multiply(BigInteger.valueOf(hundredths));
            return worth.divide(BigInteger.valueOf(100)).intValueExact();
        }

        int counted(int c, int k, int what) {
            if (!isCost(c) || !day(k) || !in(what, 0, 3)) return NONE;
            Thing t = things.get(c);
            if (what == 0) return fair(t, k);
            if (what == 1) return later(t) ? 1 : 0;
            int v = countedOf(t, k);
            return what == 2 ? v : line;
        }

        long sum(int f, int land, int episode, int year, int k) {
            long sum = 0;
            for (Thing t : things) {
                if (t.film != f || t.land != land || episode >= 0 && t.episode != episode) continue;
                if (year >= 0 && t.day / 360 != year) continue;
                sum += countedOf(t, k);
            }
            return Math.min(sum, 1999999999L);
        }

        int due(int f, int land, int k) {
            if (points(f, land, k) < law(land, f, k, k, 2)) return 0;
            return (int) Math.min(sum(f, land, -1, -1, k) * law(land, f, k, k, 1) / 100, law(land, f, k, k, 3));
        }

        int base(int f, int land, int episode, int k, int what) {
            if (!isFilm(f) || !land(land) || !day(k) || !in(what, 0, 1)) return NONE;
            if (!in(episode, -1, films.get(f)[1] - 1) || what == 1 && episode != -1) return NONE;
            return what == 0 ? (int) sum(f, land, episode, -1, k) : due(f, land, k);
        }

        int feed(int n, int v) {
            if (!in(n, 1, 4)) return NONE;
            if (tape.length() + n > 160) return FULL;
            for (int i = 0; i < n; i++) tape.append((char) (v >>> 8 * i & 255));
            return tape.length();
        }

        int text(int what, int from) {
            if (!in(what, 0, 59) || what % 10 > 4 || !day(from)) return NONE;
            if (texts.size() == 20) return FULL;
            String s = tape.toString();
            tape.setLength(0);
            int fault = faultOf(s);
            if (fault >= 0) return -100 - fault;
            texts.add(s);
            acts.add(new int[] {what, today, from});
            return texts.size() - 1;
        }

        int cap(int land, int year, int v) {
            if (!land(land) || !in(year, 0, 9) || !in(v, 0, 99999999)) return NONE;
            int was = caps[land][year];
            caps[land][year] = v;
            return was;
        }

        boolean isCertificate(int c) { return in(c, 0, certificates.size() - 1); }

        int ask(int f, int land) {
            if (!isFilm(f) || !land(land)) return NONE;
            for (int[] c : certificates) if (c[0] == f && c[1] == land) return STATE;
            if (certificates.size() == 60) return FULL;
            certificates.add(new int[] {f, land, today, -1, 0});
            return certificates.size() - 1;
        }

        /** What each got in each year, if years go on to the last. */
        int[][] deal(int lastYear) {
            int n = certificates.size();
            int[][] gets = new int[n][10];
            int[] has = new int[n];
            int[] due = new int[n];
            for (int i = 0; i < n; i++) due[i] = due(certificates.get(i)[0], certificates.get(i)[1], today);
            for (int land = 0; land < 6; land++) {
                for (int year = 0; year <= lastYear; year++) {
                    int cap = caps[land][year];
                    for (int i = 0; i < n; i++) {
                        int[] c = certificates.get(i);
                        if (c[1] != land || c[2] > 360 * year + 359) continue;
                        int get = Math.min(cap, due[i] - has[i]);
                        gets[i][year] = get;
                        has[i] += get;
                        cap -= get;
                    }
                }
            }
            return gets;
        }

        int given(int c, int what) {
            if (!isCertificate(c) || !in(what, -1, today / 360)) return NONE;
            int[] gets = deal(today / 360)[c];
            if (what >= 0) return gets[what];
            int sum = 0;
            for (int g : gets) sum += g;
            return sum;
        }

        int foretold(int c) {
            if (!isCertificate(c)) return NONE;
            int[] gets = deal(9)[c];
            int due = due(certificates.get(c)[0], certificates.get(c)[1], today);
            int has = 0;
            for (int year = 0; year < 10; year++) {
                has += gets[year];
                if (year >= certificates.get(c)[2] / 360 && has == due) return year;
            }
            return NOT;
        }

        int loan(int c, int lender, int coins, int rank) {
            if (!isCertificate(c) || !in(lender, 0, 19) || !in(coins, 1, 99999999) || !in(rank, 0, 2)) return NONE;
            if (certificates.get(c)[4] == 1) return STATE;
            if (loans.size() == 60) return FULL;
            loans.add(new int[] {c, coins, rank, 0});
            return loans.size() - 1;
        }

        void pay(int c, int coins) {
            int left = coins;
            for (int rank = 0; rank < 3; rank++) {
                List<int[]> mine = new ArrayList<>();
                BigInteger owed = BigInteger.ZERO;
                for (int[] l : loans) {
                    if (l[0] == c && l[2] == rank && l[1] > l[3]) {
                        mine.add(l);
                        owed = owed.add(BigInteger.valueOf(l[1] - l[3]));
                    }
                }
                if (owed.compareTo(BigInteger.valueOf(left)) <= 0) {
                    left -= owed.intValueExact();
                    for (int[] l : mine) l[3] = l[1];
                    continue;
                }
                List<BigInteger> rests = new ArrayList<>();
                int shared = 0;
                for (int[] l : mine) {
                    BigInteger part = BigInteger.valueOf(l[1] - l[3]).multiply(BigInteger.valueOf(left));
                    l[3] += part.divide(owed).intValueExact();
                    shared += part.divide(owed).intValueExact();
                    rests.add(part.mod(owed));
                }
                for (; shared < left; shared++) {
                    int best = 0;
                    for (int i = 1; i < rests.size(); i++) {
                        if (rests.get(i).compareTo(rests.get(best)) > 0) best = i;
                    }
                    mine.get(best)[3]++;
                    rests.set(best, BigInteger.valueOf(-1));
                }
                left = 0;
            }
            purse[films.get(certificates.get(c)[0])[0]] += left;
        }

        int advance(int c) {
            if (!isCertificate(c)) return NONE;
            int[] row = certificates.get(c);
            if (row[3] >= 0 || row[4] == 1) return STATE;
            row[3] = due(row[0], row[1], today) / 2;
            pay(c, row[3]);
            return row[3];
        }

        int settle(int c) {
            if (!isCertificate(c)) return NONE;
            int[] row = certificates.get(c);
            if (row[4] == 1) return STATE;
            row[4] = 1;
            int rest = given(c, -1) - Math.max(0, row[3]);
            if (rest > 0) pay(c, rest);
            return rest;
        }

        int repaid(int l, int what) {
            if (!in(l, 0, loans.size() - 1) || !in(what, 0, 1)) return NONE;
            return what == 0 ? loans.get(l)[3] : loans.get(l)[1] - loans.get(l)[3];
        }

        int got(int h) { return isHouse(h) ? (int) purse[h] : NONE; }

        int move(int coins, int lands) {
            if (!in(coins, 1, 9999) || !in(lands, 1, 63)) return NONE;
            if (moves.size() == 9) return FULL;
            moves.add(new int[] {coins, lands});
            return moves.size();
        }

        int best;
        List<Integer> bestWay;

        void ways(int f, int lands, int least, int i, int[] sums, List<Integer> way) {
            if (i == moves.size()) {
                int all = 0;
                int back = 0;
                for (int land = 0; land < 6; land++) {
                    all += sums[land];
                    back += law(land, f, today, today, 1) * sums[land] / 100;
                }
                for (int land = 0; land < 6; land++) {
                    if ((lands >> land & 1) == 1 && 100 * sums[land] < least * all) return;
                }
                if (back > best) {
                    best = back;
                    bestWay = new ArrayList<>(way);
                }
                return;
            }
            for (int land = 0; land < 6; land++) {
                if ((lands & moves.get(i)[1] & 1 << land) == 0) continue;
                sums[land] += moves.get(i)[0];
                way.add(land);
                ways(f, lands, least, i + 1, sums, way);
                way.remove(way.size() - 1);
                sums[land] -= moves.get(i)[0];
            }
        }

        int split(int f, int lands, int least) {
            if (!isFilm(f) || !in(lands, 1, 63) || !in(Integer.bitCount(lands), 2, 3) || !in(least, 0, 50)) return NONE;
            if (moves.isEmpty()) return STATE;
            best = -1;
            ways(f, lands, 0, 0, new int[6], new ArrayList<>());
            int free = best;
            best = -1;
            ways(f, lands, least, 0, new int[6], new ArrayList<>());
            if (best < 0) return NOT;
            chosen = bestWay;
            lost = free - best;
            moves.clear();
            return best;
        }

        int moved(int i) { return in(i, 0, chosen.size() - 1) ? chosen.get(i) : NONE; }

        int without() { return chosen.isEmpty() ? NONE : lost; }

        int gain(int land, int year, int ab, int tax, int what) {
            int a = ab / 1000;
            int b = ab % 1000;
            if (!land(land) || !in(year, 0, 9) || ab < 0 || a > 100 || b > 100) return NO_VALUE;
            if (!in(tax, 0, 100) || !in(what, 0, 1)) return NO_VALUE;
            long spent = 0;
            long back = 0;
            for (int f = 0; f < films.size(); f++) {
                spent += sum(f, land, -1, year, today);
                back += sum(f, land, -1, year, today) * law(land, f, 360 * year + 359, today, 1) / 100;
            }
            long come = spent * (what == 0 ? a : b) / 100;
            return (int) (come * tax / 100 - back);
        }

        int audit(int c, int coins) {
            if (!isCost(c) || !in(coins, 0, things.get(c).coins - 1)) return NONE;
            Thing t = things.get(c);
            if (t.auditedOn <= 3599) return STATE;
            t.auditedOn = today;
            t.less = coins;
            return audited();
        }

        int audited() {
            int n = 0;
            for (Thing t : things) if (t.auditedOn <= 3599) n++;
            return n;
        }

        int lots(int v) {
            z = v;
            return 1;
        }

        int draw(int f) {
            if (!isFilm(f)) return NONE;
            List<Integer> open = new ArrayList<>();
            for (Thing t : things) if (t.film == f && t.auditedOn > 3599) open.add(t.number);
            if (open.isEmpty()) return NOT;
            z = z * 1103515245 + 12345;
            return open.get((z >>> 8) % open.size());
        }

        static BigInteger[][] pascal = pascal();

        static BigInteger[][] pascal() {
            BigInteger[][] rows = new BigInteger[31][31];
            for (int n = 0; n <= 30; n++) {
                for (int k = 0; k <= 30; k++) {
                    rows[n][k] = k > n ? BigInteger.ZERO : k == 0 || n == 0 ? BigInteger.ONE
                        : rows[n - 1][k - 1].add(rows[n - 1][k]);
                }
            }
            return rows;
        }

        int bound(int f) {
            if (!isFilm(f)) return NONE;
            int n = 0;
            int c = 0;
            int w = 0;
            for (Thing t : things) {
                if (t.film != f) continue;
                n++;
                if (t.auditedOn <= 3599) c++;
                if (t.auditedOn <= 3599 && t.less > 0) w++;
            }
            if (n > 30) return BIG;
            if (c == 0) return n;
            int greatest = -1;
            for (int wrong = w; wrong <= n - c + w; wrong++) {
                BigInteger ways = BigInteger.ZERO;
                for (int i = 0; i <= Math.min(w, c); i++) ways = ways.add(pascal[wrong][i].multiply(pascal[n - wrong][c - i]));
                BigInteger all = pascal[n][c].multiply(BigInteger.valueOf(5));
                if (ways.multiply(BigInteger.valueOf(100)).compareTo(all) >= 0) greatest = wrong;
            }
            return greatest;
        }

        int tryText(int t) {
            if (!in(t, 0, texts.size() - 1) || acts.get(t)[0] % 10 > 1) return NONE;
            tried = t;
            long sum = 0;
            for (int f = 0; f < films.size(); f++) sum += due(f, acts.get(t)[0] / 10, today);
            tried = -1;
            return (int) Math.min(sum, 1999999999);
        }

        int twice(int what) {
            if (!in(what, 0, 2)) return NONE;
            List<int[]> all = new ArrayList<>();
            for (Thing a : things) for (Thing b : things) {
                if (a.number < b.number && twin(a, b)) all.add(new int[] {a.number, b.number});
            }
            if (all.isEmpty()) return NOT;
            return what == 0 ? all.size() : all.get(0)[what - 1];
        }

        int act(int c, int act, int x) {
            if (!isCost(c) || !in(act, 0, 2)) return NO_VALUE;
            Thing t = things.get(c);
            t.c = t.coinsOn(today);
            t.ran.clear();
            int v = act == 0 ? t.spends(x) : act == 1 ? t.counts(x) : t.proves(x);
            trace = new ArrayList<>(t.ran.subList(0, Math.min(24, t.ran.size())));
            return v;
        }

        int trace(int i) { return in(i, 0, trace.size() - 1) ? trace.get(i) : NONE; }

        int taken(int c, int k) {
            if (!isCost(c) || !in(k, 0, 6)) return NONE;
            Thing t = things.get(c);
            boolean under = k == 0 || thingOf(k).getClass().isInstance(t);
            return under ? t.kind : CAST;
        }

        int count(int what) {
            long purses = 0;
            for (long p : purse) purses += p;
            long lent = 0;
            for (int[] l : loans) lent += l[3];
            if (!in(what, 0, 13)) return NONE;
            return (int) new long[] {houseLand.size(), films.size(), homes.size(), today, things.size(), stays.size(),
                likes.size(), texts.size(), tape.length(), certificates.size(), loans.size(), audited(), purses,
                lent}[what];
        }
    }

    /** Makes the calls: mostly such as can be, now and then any. */
    static class Run {
        final ReelBack x = new ReelBack();
        final Model m = new Model();
        final Random r;
        final int run;
        final int lands;
        final int receipts;
        final boolean old;
        final int wild;
        final int focus;
        final int kin;
        final StringBuilder told = new StringBuilder();
        int calls = 0;

        Run(int run) {
            this.run = run;
            r = new Random(run);
            lands = 1 + r.nextInt(run % 3 == 0 ? 6 : 3);
            receipts = 1 + r.nextInt(r.nextBoolean() ? 6 : 200);
            old = r.nextBoolean();
            wild = r.nextInt(40) == 0 ? 2 : 25;
            focus = r.nextInt(4) == 0 ? 20 : 1 + r.nextInt(3);
            kin = r.nextBoolean() ? 1 : 8;
        }

        int n(int bound) {
            if (r.nextInt(wild * 4) == 0) {
                int[] odd = {-1, bound, Integer.MAX_VALUE, Integer.MIN_VALUE, -2, bound + 1, 1000, 100000};
                return odd[r.nextInt(odd.length)];
            }
            return bound <= 0 ? 0 : r.nextInt(bound);
        }

        int land() { return n(r.nextInt(20) == 0 ? 6 : r.nextInt(3) == 0 ? 1 : lands); }
        int house() { return n(m.houseLand.size()); }
        int film() { return n(r.nextInt(8) == 0 ? m.films.size() : Math.min(focus, m.films.size())); }
        int person() { return n(m.homes.size()); }
        int cost() { return n(m.things.size()); }
        int certificate() { return n(m.certificates.size()); }
        int past() { return r.nextInt(4) == 0 ? m.today : n(m.today + 1); }
        int known() { return r.nextInt(3) > 0 ? m.today : r.nextInt(8) == 0 ? n(3600) : n(m.today + 1); }
        int some(int most) { return r.nextInt(5) == 0 ? most : 1 + n(1 + r.nextInt(most)); }

        String part(int depth) {
            int kind = r.nextInt(depth > 4 ? 4 : 9);
            if (kind < 2) return String.valueOf(r.nextInt(r.nextInt(3) == 0 ? 1000000 : 12));
            if (kind < 4) return String.valueOf("kscelrypnj".charAt(r.nextInt(10)));
            if (kind == 4) return "!" + (r.nextBoolean() ? part(depth + 1) : "(" + part(depth + 1) + ")");
            if (kind == 5) return "(" + part(depth + 1) + ")";
            String signs = "+-*/%<=>&|";
            return part(depth + 1) + signs.charAt(r.nextInt(signs.length())) + part(depth + 1);
        }

        String sound() {
            StringBuilder all = new StringBuilder();
            int lines = 1 + r.nextInt(4);
            for (int i = 0; i < lines; i++) {
                if (i > 0) all.append(';');
                if (r.nextInt(3) > 0) all.append(part(2)).append('?');
                all.append(r.nextBoolean() ? String.valueOf(r.nextInt(130)) : part(2));
            }
            return all.toString();
        }

        String usualOf(int use) {
            if (use == 2) return new String[] {"3", "p", "0", "n", "p-1", "5*y"}[r.nextInt(6)];
            if (use == 3) return new String[] {"2000", "500000", "999*n", "p*100+50", "99999*999"}[r.nextInt(5)];
            if (use == 4) return new String[] {"1", "0", "j>1", "y", "p-4"}[r.nextInt(5)];
            String[] usual = {"100", "l*100", "k=1?l*100;r?40;60", "c>900?50;s*5", "20+p", "j>0", "p*9+n", "44", "90-c%7", "1", "0",
                "e=0?80;y*20", "500000", "50;30", "k<4&l?75;25", "p>3?45;20", "0?1"};
            return usual[r.nextInt(usual.length)];
        }

        String bytes(int use) {
            StringBuilder s = new StringBuilder(r.nextInt(4) > 0 ? usualOf(use) : sound());
            if (r.nextInt(6) == 0 && s.length() > 0) {
                int at = r.nextInt(s.length());
                String odd = "kscelrypnj0123456789!()+-*/%<=>&|?; x";
                char c = r.nextInt(20) == 0 ? (char) r.nextInt(256) : odd.charAt(r.nextInt(odd.length()));
                int way = r.nextInt(4);
                if (way == 0) s.setCharAt(at, c);
                if (way == 1) s.insert(at, c);
                if (way == 2) s.deleteCharAt(at);
                if (way == 3) s.setLength(at);
            }
            return s.toString();
        }

        void due(String call, int got, int want) {
            calls++;
            told.append(call).append(" -> ").append(want).append('\n');
            if (got != want) {
                throw new IllegalStateException("run " + run + ": " + call + " answered " + got + ", the model says " + want);
            }
        }

        void writeText() {
            int what = land() * 10 + n(r.nextBoolean() ? 2 : 5);
            String s = bytes(what % 10);
            for (int i = 0; i < s.length();) {
                int k = 1 + r.nextInt(4);
                k = Math.min(k, s.length() - i);
                int v = 0;
                for (int b = 3; b >= 0; b--) v = v << 8 | (b < k ? s.charAt(i + b) : r.nextInt(256));
                due("feed " + k + " " + v, x.feed(k, v), m.feed(k, v));
                i += k;
            }
            int from = r.nextInt(3) == 0 ? n(3600) : past();
            due("text " + what + " " + from, x.text(what, from), m.text(what, from));
        }

        void addCost() {
            int f = film();
            int kind = 1 + n(6);
            int[] v = {f, m.isFilm(f) ? n(m.films.get(f)[1]) : 0, land(), past(),
                kind == 2 || kind == 3 || kind == 5 ? house() : person(), 1 + n(receipts), n(r.nextBoolean() ? 2 : 20)};
            for (int what = 0; what < 7; what++) {
                if (m.draft[what] != v[what]) due("set " + what + " " + v[what], x.set(what, v[what]), m.set(what, v[what]));
            }
            int coins = r.nextInt(4) == 0 ? some(99999) : 1 + n(2000);
            due("cost " + kind + " " + coins, x.cost(kind, coins), m.cost(kind, coins));
        }

        void build() {
            switch (r.nextInt(19)) {
                case 0: { int a = land(); due("house " + a, x.house(a), m.house(a)); break; }
                case 1: { int a = house(), b = 1 + n(9); due("film " + a + " " + b, x.film(a, b), m.film(a, b)); break; }
                case 2: { int a = land(); due("person " + a, x.person(a), m.person(a)); break; }
                case 3: { if (r.nextInt(kin) > 0) break; int a = house(), b = house(); due("relate " + a + " " + b, x.relate(a, b), m.relate(a, b)); break; }
                case 4: {
                    int p = person(), l = land(), a = n(3600), b = n(3600);
                    if (old) { a = past(); b = a + n(300); }
                    if (a > b && r.nextInt(9) > 0) { int c = a; a = b; b = c; }
                    due("stay " + p + " " + l + " " + a + " " + b, x.stay(p, l, a, b), m.stay(p, l, a, b));
                    break;
                }
                case 5: { int l = land(), d = past(), v = some(99999); due("coin " + l + " " + d + " " + v, x.coin(l, d, v), m.coin(l, d, v)); break; }
                case 6: { int f = film(), l = land(), v = 1 + n(20); due("point " + f + " " + l + " " + v, x.point(f, l, v), m.point(f, l, v)); break; }
                case 7: { int p = n(m.points.size()); due("prove " + p, x.prove(p), m.prove(p)); break; }
                case 8: { int s = n(r.nextBoolean() ? 2 : 20), l = land(), d = past(), p = some(3000); due("like " + s + " " + l + " " + d + " " + p, x.like(s, l, d, p), m.like(s, l, d, p)); break; }
                case 9: case 10: writeText(); break;
                case 11: { if (r.nextInt(4) > 0) break; int a = film(), b = house(); due("sell " + a + " " + b, x.sell(a, b), m.sell(a, b)); break; }
                case 12: { int d = r.nextInt(3) == 0 ? 1 + n(360) : 1 + n(30); due("days " + d, x.days(d), m.days(d)); break; }
                default: addCost();
            }
        }

        void claim() {
            switch (r.nextInt(16)) {
                case 0: { int l = land(), y = n(10), v = r.nextInt(4) == 0 ? n(100000000) : n(5000); due("cap " + l + " " + y + " " + v, x.cap(l, y, v), m.cap(l, y, v)); break; }
                case 1: case 2: { int f = film(), l = land(); due("ask " + f + " " + l, x.ask(f, l), m.ask(f, l)); break; }
                case 3: case 4: { int c = certificate(), w = r.nextInt(3) == 0 ? -1 : n(m.today / 360 + 1); due("given " + c + " " + w, x.given(c, w), m.given(c, w)); break; }
                case 5: case 6: { int c = certificate(); due("foretold " + c, x.foretold(c), m.foretold(c)); break; }
                case 7: case 8: case 9: { int c = certificate(), l = n(20), v = r.nextInt(5) == 0 ? some(99999999) : some(500), k = n(3); due("loan " + c + " " + l + " " + v + " " + k, x.loan(c, l, v, k), m.loan(c, l, v, k)); break; }
                case 10: case 11: { int c = certificate(); due("advance " + c, x.advance(c), m.advance(c)); break; }
                case 12: { if (r.nextInt(3) > 0) break; int c = certificate(); due("settle " + c, x.settle(c), m.settle(c)); break; }
                case 13: case 14: { int l = n(m.loans.size()), w = n(2); due("repaid " + l + " " + w, x.repaid(l, w), m.repaid(l, w)); break; }
                default: { int h = r.nextBoolean() && m.films.size() > 0 ? m.films.get(r.nextInt(Math.min(focus, m.films.size())))[0] : house(); due("got " + h, x.got(h), m.got(h)); }
            }
        }

        void look() {
            switch (r.nextInt(12)) {
                case 0: { int l = land(), d = n(3600); due("coinOn " + l + " " + d, x.coinOn(l, d), m.coinOn(l, d)); break; }
                case 1: { int p = person(), l = land(), d = r.nextBoolean() ? past() : n(3600), k = known(); due("lives " + p + " " + l + " " + d + " " + k, x.lives(p, l, d, k), m.lives(p, l, d, k)); break; }
                case 2: { int f = film(), l = land(), k = known(); due("points " + f + " " + l + " " + k, x.points(f, l, k), m.points(f, l, k)); break; }
                case 3: { int c = cost(), w = n(10); due("of " + c + " " + w, x.of(c, w), m.of(c, w)); break; }
                case 4: { int c = cost(), k = known(), w = n(4); due("span " + c + " " + k + " " + w, x.span(c, k, w), m.span(c, k, w)); break; }
                case 5: case 6: { int c = cost(), k = known(), w = n(4); due("counted " + c + " " + k + " " + w, x.counted(c, k, w), m.counted(c, k, w)); break; }
                case 7: case 8: { int f = film(), l = land(), e = r.nextInt(3) > 0 ? -1 : n(9), k = known(), w = n(2); due("base " + f + " " + l + " " + e + " " + k + " " + w, x.base(f, l, e, k, w), m.base(f, l, e, k, w)); break; }
                case 9: { int w = land() * 10 + n(5), d = known(), k = known(); due("inForce " + w + " " + d + " " + k, x.inForce(w, d, k), m.inForce(w, d, k)); break; }
                case 10: { int l = land(), f = film(), d = known(), k = known(), w = 1 + n(3); due("law " + l + " " + f + " " + d + " " + k + " " + w, x.law(l, f, d, k, w), m.law(l, f, d, k, w)); break; }
                default: { int w = n(14); due("count " + w, x.count(w), m.count(w)); }
            }
        }

        void judge() {
            switch (r.nextInt(15)) {
                case 0: case 1: { int v = some(9999), l = r.nextBoolean() ? 7 : 1 + n(63); due("move " + v + " " + l, x.move(v, l), m.move(v, l)); break; }
                case 2: { int f = film(), l = r.nextInt(4) == 0 ? 1 + n(63) : 3 + n(4), e = r.nextBoolean() ? n(51) : n(20); due("split " + f + " " + l + " " + e, x.split(f, l, e), m.split(f, l, e)); break; }
                case 3: { int i = n(m.chosen.size()); due("moved " + i, x.moved(i), m.moved(i)); break; }
                case 4: due("without", x.without(), m.without()); break;
                case 5: { int l = land(), y = r.nextInt(3) == 0 ? n(10) : m.today / 360, ab = n(101) * 1000 + n(101), t = n(101), w = n(2); due("gain " + l + " " + y + " " + ab + " " + t + " " + w, x.gain(l, y, ab, t, w), m.gain(l, y, ab, t, w)); break; }
                case 6: case 7: { int c = cost(), v = r.nextBoolean() ? 0 : m.isCost(c) ? n(m.things.get(c).coins) : 1; due("audit " + c + " " + v, x.audit(c, v), m.audit(c, v)); break; }
                case 8: { int v = r.nextInt(); due("lots " + v, x.lots(v), m.lots(v)); break; }
                case 9: { int f = film(); due("draw " + f, x.draw(f), m.draw(f)); break; }
                case 10: { int f = film(); due("bound " + f, x.bound(f), m.bound(f)); break; }
                case 11: { int t = n(m.texts.size()); due("tryText " + t, x.tryText(t), m.tryText(t)); break; }
                case 12: { int w = n(3); due("twice " + w, x.twice(w), m.twice(w)); break; }
                case 13: { int c = cost(), a = n(3), v = r.nextBoolean() ? r.nextInt() : n(10); due("act " + c + " " + a + " " + v, x.act(c, a, v), m.act(c, a, v)); break; }
                default: { int i = n(9), c = cost(), k = n(7); due("trace " + i, x.trace(i), m.trace(i)); due("taken " + c + " " + k, x.taken(c, k), m.taken(c, k)); }
            }
        }

        /** One of the answers that can be looked at without a change. */
        void lookOnce() {
            switch (r.nextInt(6)) {
                case 0: { int c = cost(), w = r.nextInt(4); due("counted " + c + " " + w, x.counted(c, m.today, w), m.counted(c, m.today, w)); break; }
                case 1: case 2: { int f = film(), l = land(); due("base " + f + " " + l, x.base(f, l, -1, m.today, 1), m.base(f, l, -1, m.today, 1)); break; }
                case 3: { int c = certificate(); due("foretold " + c, x.foretold(c), m.foretold(c)); break; }
                case 4: { int l = n(m.loans.size()); due("repaid " + l, x.repaid(l, 0), m.repaid(l, 0)); break; }
                default: { int w = n(14); due("count " + w, x.count(w), m.count(w)); }
            }
        }

        void go() {
            int building = r.nextInt(2) == 0 ? 150 : 320;
            for (int i = 0; i < 4; i++) {
                int a = r.nextInt(lands);
                due("house " + a, x.house(a), m.house(a));
                due("film", x.film(0, 1 + i), m.film(0, 1 + i));
                due("person " + a, x.person(a), m.person(a));
            }
            for (int i = 0; i < CALLS && calls < CALLS - LOOKS; i++) {
                int kind = calls < building && r.nextInt(10) > 0 ? 0 : r.nextInt(6);
                if (kind <= 1) build();
                else if (kind <= 3) claim();
                else if (kind == 4) look();
                else judge();
            }
            while (calls < CALLS) lookOnce();
        }
    }

    public static void main(String[] args) {
        int runs = args.length > 0 ? Integer.parseInt(args[0]) : RUNS;
        int start = args.length > 1 ? Integer.parseInt(args[1]) : 0;
        long answers = 0;
        for (int run = start; run < start + runs; run++) {
            Run one = new Run(run);
            try {
                one.go();
            } catch (RuntimeException e) {
                System.out.println(one.told);
                e.printStackTrace(System.out);
                System.exit(1);
            }
            answers += one.told.toString().lines().count();
        }
        System.out.println(runs + " random runs, " + answers + " answers are those of the model");
    }
}
