import java.util.ArrayList;
import java.util.List;
import java.util.TreeSet;

/**
 * The document once more, in another way: only what happened is kept, and each answer is reckoned
 * anew from that. The PLAN is found by trying all.
 */
final class SlowModel {
    record Home(int town, int limit, int came) { }

    record Work(int artist, int worth, int town, int came) { }

    record Rule(int day, int age, int rest, int keep, int term, int rate, int part) { }

    record Look(int work, int marks, int step) { }

    static final class Wish {
        int home, work, state, since, refusals;
        List<Integer> refusedOn = new ArrayList<>();
    }

    static final class Lending {
        int work, home, day, term, step;
        int rent, endDay = -1, endStep = Integer.MAX_VALUE;
        int end = 1;
    }

    final int[][] far = new int[4][4];
    final List<Home> homes = new ArrayList<>();
    final List<Work> works = new ArrayList<>();
    final List<Rule> rules = new ArrayList<>();
    final List<Wish> wishes = new ArrayList<>();
    final List<Lending> lendings = new ArrayList<>();
    final List<Look> looks = new ArrayList<>();
    final int[] owes = new int[20];
    final int[] artists = new int[10];
    int now, driven, sales, step;

    boolean far(int a, int b, int miles) {
        if (a < 0 || a > 3 || b < 0 || b > 3 || a == b || miles < 0 || miles > 500) return false;
        far[a][b] = far[b][a] = miles;
        return true;
    }

    int home(int town, int limit) {
        if (town < 0 || town > 3 || limit < 0 || limit > 1000 || homes.size() == 20) return -1;
        homes.add(new Home(town, limit, now));
        return homes.size() - 1;
    }

    int work(int artist, int worth, int town) {
        if (artist < 0 || artist > 9 || worth < 20 || worth > 4000 || town < 0 || town > 3) return -1;
        if (works.size() == 40) return -1;
        works.add(new Work(artist, worth, town, now));
        return works.size() - 1;
    }

    boolean rule(int day, int what, int coins) {
        if (day < 0 || day > 20000 || what < 0 || coins < 0 || rules.size() == 60) return false;
        int term = what % 10000;
        int digits = what / 10000;
        int part = coins % 1000;
        int rate = coins / 1000;
        if (digits > 999 || term < 1 || term > 400 || rate > 99 || part > 100) return false;
        rules.add(new Rule(day, digits / 100, digits / 10 % 10, digits % 10, term, rate, part));
        return true;
    }

    Rule inForce(int day) {
        int greatest = rules.stream().mapToInt(Rule::day).filter(d -> d <= day).max().orElse(-1);
        for (int i = rules.size() - 1; i >= 0; i--) {
            if (rules.get(i).day == greatest) return rules.get(i);
        }
        return new Rule(0, 1, 0, 0, 90, 10, 0);
    }

    int go(int n) {
        if (n < 0 || n > 1000) return -1;
        for (int i = 0; i < n && now < 20000; i++) now++;
        return now;
    }

    boolean isWork(int work) {
        return work >= 0 && work < works.size();
    }

    boolean isHome(int home) {
        return home >= 0 && home < homes.size();
    }

    Lending last(int work) {
        Lending found = null;
        for (Lending l : lendings) if (l.work == work) found = l;
        return found;
    }

    int state(int work) {
        Lending l = last(work);
        return l == null ? 0 : l.end;
    }

    int town(int work) {
        Lending l = last(work);
        return l == null ? works.get(work).town : homes.get(l.home).town;
    }

    int wish(int home, int work) {
        if (!isHome(home) || !isWork(work) || state(work) > 1 || wishes.size() == 200) return -1;
        if (state(work) == 1 && last(work).home == home) return -1;
        for (Wish w : wishes) if (w.home == home && w.work == work && w.state == 0) return -1;
        Wish w = new Wish();
        w.home = home;
        w.work = work;
        w.since = now;
        wishes.add(w);
        return wishes.size() - 1;
    }

    boolean isOpen(int wish) {
        return wish >= 0 && wish < wishes.size() && wishes.get(wish).state == 0;
    }

    boolean unwish(int wish) {
        if (!isOpen(wish)) return false;
        wishes.get(wish).state = 2;
        return true;
    }

    int rank(int wish) {
        if (!isOpen(wish)) return -1;
        Wish w = wishes.get(wish);
        int got = homes.get(w.home).came;
        for (Lending l : lendings) if (l.home == w.home) got = Math.max(got, l.day);
        Rule r = inForce(now);
        return r.age * (now - w.since) + r.rest * Math.floorDiv(now - got, 30);
    }

    int pointsAt(int home) {
        int sum = 0;
        for (Lending l : lendings) if (l.home == home && l.end == 1) sum += works.get(l.work).worth / 20;
        return sum;
    }

    boolean fits(int wish) {
        Wish w = wishes.get(wish);
        return w.state == 0 && state(w.work) == 0
            && pointsAt(w.home) + works.get(w.work).worth / 20 <= homes.get(w.home).limit;
    }

    int next(int work) {
        if (!isWork(work) || state(work) != 0) return -1;
        int best = -1;
        for (int i = wishes.size() - 1; i >= 0; i--) {
            Wish w = wishes.get(i);
            if (w.work != work || !fits(i) || w.refusedOn.contains(now)) continue;
            if (best < 0 || rank(i) >= rank(best)) best = i;
        }
        return best;
    }

    boolean offer(int work, boolean taken) {
        int n = next(work);
        if (n < 0) return false;
        Wish w = wishes.get(n);
        Rule r = inForce(now);
        if (!taken) {
            w.refusedOn.add(now);
            w.refusals++;
            if (w.refusals > r.keep) {
                w.since = now;
                w.refusals = 0;
            }
            return true;
        }
        driven += far[town(work)][homes.get(w.home).town];
        w.state = 1;
        Lending l = new Lending();
        l.work = work;
        l.home = w.home;
        l.day = now;
        l.term = r.term;
        l.step = ++step;
        lendings.add(l);
        return true;
    }

    private Lending ended(int work, int end) {
        Lending l = last(work);
        int months = 0;
        for (int d = l.day; d < now; d += 30) months++;
        if (months == 0) months = 1;
        int each = works.get(work).worth * inForce(l.day).rate / 1000;
        for (int i = 0; i < months; i++) l.rent += each;
        owes[l.home] += l.rent;
        artists[works.get(work).artist] += l.rent * inForce(now).part / 100;
        l.end = end;
        l.endDay = now;
        l.endStep = ++step;
        if (end > 1) for (Wish w : wishes) if (w.work == work && w.state == 0) w.state = 2;
        return l;
    }

    int back(int work) {
        return isWork(work) && state(work) == 1 ? ended(work, 0).rent : -1;
    }

    int sell(int work) {
        if (!isWork(work) || state(work) != 1) return -1;
        Lending l = ended(work, 2);
        int rents = 0;
        for (Lending o : lendings) if (o.work == work && o.home == l.home) rents += o.rent;
        int worth = works.get(work).worth;
        int price = worth - rents / 2;
        if (price < worth / 2) price = worth / 2;
        owes[l.home] += price;
        sales += price;
        return price;
    }

    boolean lose(int work) {
        if (!isWork(work) || state(work) != 1) return false;
        owes[ended(work, 3).home] += works.get(work).worth;
        return true;
    }

    int pay(int home, int n) {
        if (!isHome(home) || n < 1 || n > owes[home]) return -1;
        return owes[home] -= n;
    }

    List<Look> looksAt(int work) {
        List<Look> found = new ArrayList<>();
        for (Look l : looks) if (l.work == work) found.add(l);
        return found;
    }

    int look(int work, int marks) {
        if (!isWork(work) || state(work) > 1 || marks < 0 || marks > 65535 || looks.size() == 300) return -1;
        looks.add(new Look(work, marks, ++step));
        return looksAt(work).size();
    }

    int blame(int work, int place) {
        if (place < 0 || place > 15) return -1;
        List<Look> seen = looksAt(work);
        int first = seen.size();
        while (first > 0 && (seen.get(first - 1).marks & (1 << place)) != 0) first--;
        if (first == seen.size()) return -1;
        if (first == 0) return -2;
        TreeSet<Integer> had = new TreeSet<>();
        for (Lending l : lendings) {
            if (l.work == work && l.step < seen.get(first).step && l.endStep > seen.get(first - 1).step) had.add(l.home);
        }
        return had.size() == 1 ? had.first() : -2;
    }

    // The PLAN: best holds served, miles and, for each WORK, its WISH (1000 for none).
    private int[] best;

    private List<Integer> plannable() {
        TreeSet<Integer> found = new TreeSet<>();
        for (int i = 0; i < wishes.size(); i++) if (fits(i)) found.add(wishes.get(i).work);
        return new ArrayList<>(found);
    }

    private void tryAll(List<List<Integer>> options, int at, int[] sofar) {
        if (at == options.size()) {
            if (best == null || better(sofar)) best = sofar.clone();
            return;
        }
        sofar[2 + at] = 1000;
        tryAll(options, at + 1, sofar);
        for (int w : options.get(at)) {
            boolean used = false;
            for (int i = 0; i < at; i++) {
                if (sofar[2 + i] < 1000 && wishes.get(sofar[2 + i]).home == wishes.get(w).home) used = true;
            }
            if (used) continue;
            int miles = far[town(wishes.get(w).work)][homes.get(wishes.get(w).home).town];
            sofar[0]++;
            sofar[1] += miles;
            sofar[2 + at] = w;
            tryAll(options, at + 1, sofar);
            sofar[0]--;
            sofar[1] -= miles;
        }
        sofar[2 + at] = 1000;
    }

    private boolean better(int[] sofar) {
        if (sofar[0] != best[0]) return sofar[0] > best[0];
        for (int i = 1; i < sofar.length; i++) if (sofar[i] != best[i]) return sofar[i] < best[i];
        return false;
    }

    private List<Integer> makePlan() {
        List<Integer> which = plannable();
        best = null;
        if (which.size() < 1 || which.size() > 4) return null;
        List<List<Integer>> options = new ArrayList<>();
        for (int work : which) {
            List<Integer> mine = new ArrayList<>();
            for (int i = 0; i < wishes.size(); i++) if (fits(i) && wishes.get(i).work == work) mine.add(i);
            options.add(mine);
        }
        tryAll(options, 0, new int[2 + which.size()]);
        return which;
    }

    int planned(int work) {
        List<Integer> which = makePlan();
        int at = which == null ? -1 : which.indexOf(work);
        return at < 0 || best[2 + at] == 1000 ? -1 : best[2 + at];
    }

    int miles() {
        return makePlan() == null ? -1 : best[1];
    }

    int told(int work, int what) {
        if (!isWork(work)) return -1;
        Lending l = last(work);
        int state = state(work);
        if (what == 0) return state;
        if (what == 1) return state == 0 ? -1 : l.home;
        if (what == 2) return state == 0 ? town(work) : -1;
        if (what == 3) return state == 1 ? l.day : -1;
        if (what == 4) return state == 1 && now > l.day + l.term ? now - l.day - l.term : 0;
        if (what == 5) return (int) lendings.stream().filter(o -> o.work == work).count();
        if (what == 6) return storeDays(work);
        return what == 7 ? works.get(work).worth / 20 : -1;
    }

    private int storeDays(int work) {
        int days = 0;
        int since = works.get(work).came;
        for (Lending l : lendings) {
            if (l.work != work) continue;
            days += l.day - since;
            since = l.endDay;
        }
        return state(work) == 0 ? days + now - since : days;
    }

    int homed(int home, int what) {
        if (!isHome(home)) return -1;
        if (what == 0) return homes.get(home).town;
        if (what == 1) return pointsAt(home);
        if (what == 2) return owes[home];
        if (what == 3) return (int) lendings.stream().filter(l -> l.home == home && l.end == 1).count();
        return what == 4 ? lendings.stream().filter(l -> l.home == home).mapToInt(l -> l.rent).sum() : -1;
    }

    int wished(int wish, int what) {
        if (wish < 0 || wish >= wishes.size()) return -1;
        Wish w = wishes.get(wish);
        return what == 0 ? w.state : what == 1 ? w.since : what == 2 ? w.refusals : -1;
    }

    int artist(int artist) {
        return artist < 0 || artist > 9 ? -1 : artists[artist];
    }

    int count(int what) {
        if (what == 0) return now;
        if (what == 1) return homes.size();
        if (what == 2) return works.size();
        if (what == 3) return wishes.size();
        if (what == 4) return (int) wishes.stream().filter(w -> w.state == 0).count();
        if (what == 5) return driven;
        if (what == 6) return lendings.stream().mapToInt(l -> l.rent).sum();
        if (what == 7) return sales;
        return what == 8 ? looks.size() : -1;
    }
}
