import java.util.ArrayList;

/**
 * Pictures that are lent to homes for some months.
 *
 * <p>The words in capitals in the comments are the terms of the document.
 */
public final class PicturesLent {
    public static final int NONE = -1;

    private static final int DOUBT = -2;

    private static final int LAST_DAY = 20000;
    private static final int MOST_DAYS_AT_ONCE = 1000;
    private static final int MONTH = 30;
    private static final int TOWNS = 4;
    private static final int ARTISTS = 10;
    private static final int PLACES = 16;
    private static final int MOST_MILES = 500;
    private static final int MOST_LIMIT = 1000;
    private static final int LEAST_WORTH = 20;
    private static final int MOST_WORTH = 4000;
    private static final int WORTH_OF_A_POINT = 20;
    private static final int MOST_MARKS = 65535;

    private static final int MOST_HOMES = 20;
    private static final int MOST_WORKS = 40;
    private static final int MOST_RULES = 60;
    private static final int MOST_WISHES = 200;
    private static final int MOST_LOOKS = 300;
    private static final int MOST_PLANNED = 4;

    private static final int IN_STORE = 0;
    private static final int LENT = 1;
    private static final int SOLD = 2;
    private static final int LOST = 3;

    private static final int OPEN = 0;
    private static final int SERVED = 1;
    private static final int GONE = 2;

    private final int[][] milesBetween = new int[TOWNS][TOWNS];
    private final ArrayList<Home> homes = new ArrayList<>();
    private final ArrayList<Work> works = new ArrayList<>();
    private final ArrayList<Wish> wishes = new ArrayList<>();
    private final ArrayList<Rule> rules = new ArrayList<>();
    private final Rule ruleAtFirst = new Rule(NONE, Rule.WHAT_AT_FIRST, Rule.COINS_AT_FIRST);
    private final int[] artistCoins = new int[ARTISTS];
    private final Plan plan = new Plan();
    private int now = 0;
    private int milesDriven = 0;
    private int allRents = 0;
    private int allSales = 0;
    private int allLooks = 0;

    public PicturesLent() {
    }

    // ---- towns, homes, works, rules and days

    public boolean far(int a, int b, int miles) {
        if (!isTown(a) || !isTown(b) || a == b || !within(miles, 0, MOST_MILES)) {
            return false;
        }
        milesBetween[a][b] = miles;
        milesBetween[b][a] = miles;
        return true;
    }

    public int home(int town, int limit) {
        int number = homes.size();
        if (!isTown(town) || !within(limit, 0, MOST_LIMIT) || number >= MOST_HOMES) {
            return NONE;
        }
        homes.add(new Home(number, town, limit, now));
        return number;
    }

    public int work(int artist, int worth, int town) {
        int number = works.size();
        if (!isArtist(artist) || !within(worth, LEAST_WORTH, MOST_WORTH) || !isTown(town)
                || number >= MOST_WORKS) {
            return NONE;
        }
        works.add(new Work(number, artist, worth, town, now));
        return number;
    }

    public boolean rule(int day, int what, int coins) {
        if (!within(day, 0, LAST_DAY) || !Rule.canBe(what, coins) || rules.size() >= MOST_RULES) {
            return false;
        }
        rules.add(new Rule(day, what, coins));
        return true;
    }

    public int go(int n) {
        if (!within(n, 0, MOST_DAYS_AT_ONCE)) {
            return NONE;
        }
        now = Math.min(LAST_DAY, now + n);
        return now;
    }

    // ---- wishes and offers

    public int wish(int home, int work) {
        Home wishing = homeOf(home);
        Work wanted = workOf(work);
        int number = wishes.size();
        if (wishing == null || wanted == null || !wanted.canBeWishedBy(wishing)
                || hasOpenWish(wishing, wanted) || number >= MOST_WISHES) {
            return NONE;
        }
        wishes.add(new Wish(number, wishing, wanted, now));
        return number;
    }

    public boolean unwish(int wish) {
        Wish open = openWish(wish);
        if (open == null) {
            return false;
        }
        open.state = GONE;
        return true;
    }

    public int rank(int wish) {
        Wish open = openWish(wish);
        return open == null ? NONE : open.rankBy(ruleOn(now), now);
    }

    public int next(int work) {
        Wish first = nextFor(workOf(work));
        return first == null ? NONE : first.number;
    }

    public boolean offer(int work, boolean taken) {
        Wish first = nextFor(workOf(work));
        if (first == null) {
            return false;
        }
        if (taken) {
            milesDriven += milesFor(first);
            first.state = SERVED;
            first.work.lendTo(first.home, now, ruleOn(now).term);
        } else {
            first.refuse(ruleOn(now).keep, now);
        }
        return true;
    }

    // ---- rent, sale and loss

    public int back(int work) {
        Work lent = lentWork(work);
        if (lent == null) {
            return NONE;
        }
        int rent = chargeRent(lent, lent.home);
        lent.comeBack(now);
        return rent;
    }

    public int sell(int work) {
        Work lent = lentWork(work);
        if (lent == null) {
            return NONE;
        }
        Home buyer = lent.home;
        chargeRent(lent, buyer);
        int price = lent.priceFor(buyer);
        buyer.owes += price;
        allSales += price;
        giveUp(lent, SOLD);
        return price;
    }

    public boolean lose(int work) {
        Work lent = lentWork(work);
        if (lent == null) {
            return false;
        }
        Home loser = lent.home;
        chargeRent(lent, loser);
        loser.owes += lent.worth;
        giveUp(lent, LOST);
        return true;
    }

    public int pay(int home, int n) {
        Home payer = homeOf(home);
        if (payer == null || !within(n, 1, payer.owes)) {
            return NONE;
        }
        payer.owes -= n;
        return payer.owes;
    }

    // ---- looks and marks

    public int look(int work, int marks) {
        Work seen = workOf(work);
        if (seen == null || seen.isGivenUp() || !within(marks, 0, MOST_MARKS)
                || allLooks >= MOST_LOOKS) {
            return NONE;
        }
        allLooks++;
        seen.noteLook(marks);
        return seen.looks;
    }

    public int blame(int work, int place) {
        Work marked = workOf(work);
        if (marked == null || !within(place, 0, PLACES - 1)) {
            return NONE;
        }
        Look first = marked.latestLook;
        if (first == null || !first.shows(place)) {
            return NONE;
        }
        while (first.ahead != null && first.ahead.shows(place)) {
            first = first.ahead;
        }
        return first.blamed;
    }

    // ---- the plan

    public int planned(int work) {
        Work asked = workOf(work);
        if (asked == null || !makePlan()) {
            return NONE;
        }
        Wish chosen = plan.wishFor(asked);
        return chosen == null ? NONE : chosen.number;
    }

    public int miles() {
        return makePlan() ? plan.bestMiles : NONE;
    }

    // ---- what is told

    public int told(int work, int what) {
        Work asked = workOf(work);
        if (asked == null) {
            return NONE;
        }
        switch (what) {
            case 0: return asked.state;
            case 1: return asked.home == null ? NONE : asked.home.number;
            case 2: return asked.state == IN_STORE ? asked.town : NONE;
            case 3: return asked.isLent() ? asked.lentOn : NONE;
            case 4: return asked.daysLate(now);
            case 5: return asked.timesLent;
            case 6: return asked.daysInStores(now);
            case 7: return asked.points;
            default: return NONE;
        }
    }

    public int homed(int home, int what) {
        Home asked = homeOf(home);
        if (asked == null) {
            return NONE;
        }
        switch (what) {
            case 0: return asked.town;
            case 1: return asked.pointsLent;
            case 2: return asked.owes;
            case 3: return asked.worksLent;
            case 4: return asked.rents;
            default: return NONE;
        }
    }

    public int wished(int wish, int what) {
        Wish asked = wishOf(wish);
        if (asked == null) {
            return NONE;
        }
        switch (what) {
            case 0: return asked.state;
            case 1: return asked.standsSince;
            case 2: return asked.refusals;
            default: return NONE;
        }
    }

    public int artist(int artist) {
        return isArtist(artist) ? artistCoins[artist] : NONE;
    }

    public int count(int what) {
        switch (what) {
            case 0: return now;
            case 1: return homes.size();
            case 2: return works.size();
            case 3: return wishes.size();
            case 4: return openWishes();
            case 5: return milesDriven;
            case 6: return allRents;
            case 7: return allSales;
            case 8: return allLooks;
            default: return NONE;
        }
    }

    // ---- finding by number

    private static boolean within(int x, int least, int most) {
        return least <= x && x <= most;
    }

    private static boolean isTown(int town) {
        return within(town, 0, TOWNS - 1);
    }

    private static boolean isArtist(int artist) {
        return within(artist, 0, ARTISTS - 1);
    }

    private Home homeOf(int number) {
        return within(number, 0, homes.size() - 1) ? homes.get(number) : null;
    }

    private Work workOf(int number) {
        return within(number, 0, works.size() - 1) ? works.get(number) : null;
    }

    private Work lentWork(int number) {
        Work work = workOf(number);
        return work != null && work.isLent() ? work : null;
    }

    private Wish wishOf(int number) {
        return within(number, 0, wishes.size() - 1) ? wishes.get(number) : null;
    }

    private Wish openWish(int number) {
        Wish wish = wishOf(number);
        return wish != null && wish.state == OPEN ? wish : null;
    }

    private Rule ruleOn(int day) {
        Rule found = ruleAtFirst;
        for (int i = 0; i < rules.size(); i++) {
            Rule rule = rules.get(i);
            // Not only a greater DAY but a like one too goes ahead: the latest told is in force.
            if (rule.day <= day && rule.day >= found.day) {
                found = rule;
            }
        }
        return found;
    }

    // ---- wishes

    private boolean hasOpenWish(Home home, Work work) {
        for (int i = 0; i < wishes.size(); i++) {
            Wish wish = wishes.get(i);
            if (wish.state == OPEN && wish.home == home && wish.work == work) {
                return true;
            }
        }
        return false;
    }

    private int openWishes() {
        int open = 0;
        for (int i = 0; i < wishes.size(); i++) {
            if (wishes.get(i).state == OPEN) {
                open++;
            }
        }
        return open;
    }

    private Wish nextFor(Work work) {
        Rule rule = ruleOn(now);
        Wish first = null;
        int greatest = NONE;
        for (int i = 0; i < wishes.size(); i++) {
            Wish wish = wishes.get(i);
            if (wish.work == work && wish.canBeServed() && wish.refusedOn != now) {
                int rank = wish.rankBy(rule, now);
                if (rank > greatest) {
                    greatest = rank;
                    first = wish;
                }
            }
        }
        return first;
    }

    private int milesFor(Wish wish) {
        return milesBetween[wish.work.town][wish.home.town];
    }

    // ---- rent

    private int chargeRent(Work work, Home home) {
        int rent = work.rentBy(ruleOn(work.lentOn), now);
        work.rentsOf[home.number] += rent;
        home.rents += rent;
        home.owes += rent;
        allRents += rent;
        artistCoins[work.artist] += rent * ruleOn(now).part / 100;
        return rent;
    }

    private void giveUp(Work work, int state) {
        work.leaveHome(state);
        for (int i = 0; i < wishes.size(); i++) {
            Wish wish = wishes.get(i);
            if (wish.work == work && wish.state == OPEN) {
                wish.state = GONE;
            }
        }
    }

    // ---- the plan

    /** Answers whether the PLAN can be asked. */
    private boolean makePlan() {
        plan.clear();
        for (int i = 0; i < wishes.size(); i++) {
            Wish wish = wishes.get(i);
            if (wish.canBeServed()) {
                plan.add(wish, milesFor(wish));
            }
        }
        if (!plan.canBeAsked()) {
            return false;
        }
        plan.make();
        return true;
    }

    private static final class Rule {
        static final int WHAT_AT_FIRST = 1000090;
        static final int COINS_AT_FIRST = 10000;

        private static final int MOST_WHAT = 9999999;
        private static final int MOST_TERM = 400;
        private static final int MOST_COINS = 99999;
        private static final int MOST_PART = 100;

        final int day;
        final int age;
        final int rest;
        final int keep;
        final int term;
        final int rate;
        final int part;

        Rule(int day, int what, int coins) {
            this.day = day;
            this.age = what / 1000000;
            this.rest = what / 100000 % 10;
            this.keep = what / 10000 % 10;
            this.term = what % 10000;
            this.rate = coins / 1000;
            this.part = coins % 1000;
        }

        static boolean canBe(int what, int coins) {
            return within(what, 0, MOST_WHAT) && within(what % 10000, 1, MOST_TERM)
                    && within(coins, 0, MOST_COINS) && coins % 1000 <= MOST_PART;
        }
    }

    private static final class Home {
        final int number;
        final int town;
        final int limit;
        int gotLastOn;
        int pointsLent = 0;
        int worksLent = 0;
        int owes = 0;
        int rents = 0;

        Home(int number, int town, int limit, int day) {
            this.number = number;
            this.town = town;
            this.limit = limit;
            this.gotLastOn = day;
        }

        boolean hasRoomFor(Work work) {
            return pointsLent + work.points <= limit;
        }
    }

    private static final class Work {
        final int number;
        final int artist;
        final int worth;
        final int points;
        final int[] rentsOf = new int[MOST_HOMES];
        int state = IN_STORE;
        int town;
        int storedOn;
        int storeDays = 0;
        Home home = null;
        int lentOn = NONE;
        int term = 0;
        int timesLent = 0;
        int looks = 0;
        Look latestLook = null;
        // The only HOME that had it at the latest LOOK or later; NONE, or DOUBT for several.
        int hadBy = NONE;

        Work(int number, int artist, int worth, int town, int day) {
            this.number = number;
            this.artist = artist;
            this.worth = worth;
            this.points = worth / WORTH_OF_A_POINT;
            this.town = town;
            this.storedOn = day;
        }

        boolean isLent() {
            return state == LENT && home != null;
        }

        boolean isGivenUp() {
            return state == SOLD || state == LOST;
        }

        boolean canBeWishedBy(Home wishing) {
            return state == IN_STORE || state == LENT && home != wishing;
        }

        void lendTo(Home taker, int day, int days) {
            storeDays = daysInStores(day);
            state = LENT;
            home = taker;
            lentOn = day;
            term = days;
            timesLent++;
            hadBy = hadBy == NONE || hadBy == taker.number ? taker.number : DOUBT;
            taker.pointsLent += points;
            taker.worksLent++;
            taker.gotLastOn = day;
        }

        void leaveHome(int newState) {
            if (home != null) {
                home.pointsLent -= points;
                home.worksLent--;
            }
            state = newState;
        }

        void comeBack(int day) {
            leaveHome(IN_STORE);
            if (home != null) {
                town = home.town;
            }
            home = null;
            storedOn = day;
        }

        int daysInStores(int day) {
            return state == IN_STORE ? storeDays + day - storedOn : storeDays;
        }

        int daysLate(int day) {
            return isLent() ? Math.max(0, day - lentOn - term) : 0;
        }

        int rentBy(Rule rule, int day) {
            int begunMonths = Math.max(1, (day - lentOn + MONTH - 1) / MONTH);
            return begunMonths * (worth * rule.rate / 1000);
        }

        int priceFor(Home buyer) {
            return Math.max(worth / 2, worth - rentsOf[buyer.number] / 2);
        }

        void noteLook(int marks) {
            int blamed = latestLook == null || hadBy == NONE ? DOUBT : hadBy;
            latestLook = new Look(marks, blamed, latestLook);
            looks++;
            hadBy = isLent() ? home.number : NONE;
        }
    }

    private static final class Look {
        final int marks;
        // Of whom a MARK is that CAME between the LOOK ahead and this one.
        final int blamed;
        final Look ahead;

        Look(int marks, int blamed, Look ahead) {
            this.marks = marks;
            this.blamed = blamed;
            this.ahead = ahead;
        }

        boolean shows(int place) {
            return (marks >> place & 1) == 1;
        }
    }

    private static final class Wish {
        final int number;
        final Home home;
        final Work work;
        int state = OPEN;
        int standsSince;
        int refusals = 0;
        int refusedOn = NONE;

        Wish(int number, Home home, Work work, int day) {
            this.number = number;
            this.home = home;
            this.work = work;
            this.standsSince = day;
        }

        boolean canBeServed() {
            return state == OPEN && work.state == IN_STORE && home.hasRoomFor(work);
        }

        int rankBy(Rule rule, int day) {
            return rule.age * (day - standsSince) + rule.rest * ((day - home.gotLastOn) / MONTH);
        }

        void refuse(int keep, int day) {
            refusedOn = day;
            refusals++;
            if (refusals > keep) {
                refusals = 0;
                standsSince = day;
            }
        }
    }

    /**
     * One WORK of the PLAN with its WISHES by number. Those beyond the nearest four (of like ones
     * the first) are left out: the other WORKS take three HOMES at most, so one of these four is
     * always free and at least as good.
     */
    private static final class Choice {
        final Wish[] wishes = new Wish[MOST_PLANNED];
        final int[] milesOf = new int[MOST_PLANNED];
        Work work = null;
        int size = 0;
        Wish tried = null;
        Wish best = null;

        void start(Work chosenFor) {
            work = chosenFor;
            size = 0;
            tried = null;
            best = null;
        }

        void add(Wish wish, int miles) {
            if (size >= MOST_PLANNED) {
                int farthest = lastOfFarthest();
                if (miles >= milesOf[farthest]) {
                    return;
                }
                drop(farthest);
            }
            wishes[size] = wish;
            milesOf[size] = miles;
            size++;
        }

        private int lastOfFarthest() {
            int found = 0;
            for (int i = 1; i < size; i++) {
                if (milesOf[i] >= milesOf[found]) {
                    found = i;
                }
            }
            return found;
        }

        private void drop(int place) {
            for (int i = place; i < size - 1; i++) {
                wishes[i] = wishes[i + 1];
                milesOf[i] = milesOf[i + 1];
            }
            size--;
        }
    }

    private static final class Plan {
        // The first ones, as many as size tells, are in use, by the numbers of their WORKS.
        private final Choice[] choices = new Choice[MOST_PLANNED];
        private int size = 0;
        private boolean tooMany = false;
        private int bestServed = 0;
        int bestMiles = 0;

        Plan() {
            for (int i = 0; i < MOST_PLANNED; i++) {
                choices[i] = new Choice();
            }
        }

        void clear() {
            size = 0;
            tooMany = false;
            bestServed = 0;
            bestMiles = 0;
        }

        boolean canBeAsked() {
            return size > 0 && !tooMany;
        }

        void add(Wish wish, int miles) {
            int place = placeFor(wish.work);
            if (place >= size || choices[place].work != wish.work) {
                if (size >= MOST_PLANNED) {
                    tooMany = true;
                    return;
                }
                startAt(place, wish.work);
            }
            choices[place].add(wish, miles);
        }

        private int placeFor(Work work) {
            int place = 0;
            while (place < size && choices[place].work.number < work.number) {
                place++;
            }
            return place;
        }

        private void startAt(int place, Work work) {
            Choice unused = choices[size];
            for (int i = size; i > place; i--) {
                choices[i] = choices[i - 1];
            }
            choices[place] = unused;
            unused.start(work);
            size++;
        }

        void make() {
            choose(0, 0, 0, 0);
        }

        /**
         * Tries all that the WORKS from this depth on may get. The tries go by numbers, none behind
         * all, so of like ones the first is kept.
         */
        private void choose(int depth, int served, int miles, int takenHomes) {
            if (served + size - depth < bestServed) {
                return;
            }
            if (depth >= size) {
                keepIfBetter(served, miles);
                return;
            }
            Choice choice = choices[depth];
            for (int i = 0; i < choice.size; i++) {
                int home = 1 << choice.wishes[i].home.number;
                if ((takenHomes & home) == 0) {
                    choice.tried = choice.wishes[i];
                    choose(depth + 1, served + 1, miles + choice.milesOf[i], takenHomes | home);
                }
            }
            choice.tried = null;
            choose(depth + 1, served, miles, takenHomes);
        }

        private void keepIfBetter(int served, int miles) {
            if (served > bestServed || served == bestServed && miles < bestMiles) {
                bestServed = served;
                bestMiles = miles;
                for (int i = 0; i < size; i++) {
                    choices[i].best = choices[i].tried;
                }
            }
        }

        Wish wishFor(Work work) {
            for (int i = 0; i < size; i++) {
                if (choices[i].work == work) {
                    return choices[i].best;
                }
            }
            return null;
        }
    }
}
