import java.util.Arrays;

/** Money back for films: what lands give of what is spent there. See ../shared/DOC.md. */
public final class ReelBack {
    public static final int NONE = -1, FULL = -2, STATE = -3, NOT = -4, BIG = -5, CAST = -6, NO_VALUE = -2000000000;

    private static final int LANDS = 6;
    private static final int LAST_DAY = 3599;
    private static final int YEAR_DAYS = 360;
    private static final int YEARS = 10;
    private static final int ALL = -1;
    private static final int MOST_COINS = 99999;
    private static final int MOST_MONEY = 99999999;
    private static final int HELD = 1999999999;

    private static final int COUNTS = 0;
    private static final int RATE = 1;
    private static final int NEED = 2;
    private static final int TOP = 3;
    private static final int DOUBLES = 4;

    private final Houses houses;
    private final Films films;
    private final Persons persons;
    private final Prices prices;
    private final Costs costs;
    private final Reader reader;
    private final Acts acts;
    private final Claims claims;
    private final Queue queue;
    private final Treaty treaty;
    private int today;

    public ReelBack() {
        houses = new Houses();
        films = new Films();
        persons = new Persons();
        prices = new Prices();
        costs = new Costs();
        reader = new Reader();
        acts = new Acts();
        claims = new Claims(houses, films, persons, prices, costs, acts);
        queue = new Queue(houses, films, claims);
        treaty = new Treaty(claims);
    }

    // ---- days, coins, houses, persons

    public int days(int n) {
        if (!within(n, 1, YEAR_DAYS) || today + n > LAST_DAY) {
            return NONE;
        }
        today += n;
        return today;
    }

    public int coin(int land, int day, int v) {
        if (!isLand(land) || !isDay(day) || !within(v, 1, MOST_COINS)) {
            return NONE;
        }
        return prices.tellCoin(land, day, v);
    }

    public int coinOn(int land, int day) {
        if (!isLand(land) || !isDay(day)) {
            return NONE;
        }
        return prices.coinOf(land, day);
    }

    public int house(int land) {
        if (!isLand(land)) {
            return NONE;
        }
        return houses.add(land);
    }

    public int relate(int a, int b) {
        if (!houses.has(a) || !houses.has(b) || a == b) {
            return NONE;
        }
        return houses.tie(a, b, today);
    }

    public int film(int house, int episodes) {
        if (!houses.has(house) || !within(episodes, 1, 9)) {
            return NONE;
        }
        return films.add(house, episodes);
    }

    public int sell(int film, int house) {
        if (!films.has(film) || !houses.has(house) || films.houseOf[film] == house) {
            return NONE;
        }
        int before = films.houseOf[film];
        films.houseOf[film] = house;
        return before;
    }

    public int person(int land) {
        if (!isLand(land)) {
            return NONE;
        }
        return persons.add(land);
    }

    public int stay(int person, int land, int from, int to) {
        if (!persons.has(person) || !isLand(land) || !isDay(from) || !isDay(to) || from > to) {
            return NONE;
        }
        return persons.tellStay(person, land, from, to, today);
    }

    public int lives(int person, int land, int d, int k) {
        if (!persons.has(person) || !isLand(land) || !isDay(d) || !isDay(k)) {
            return NONE;
        }
        return persons.livesIn(person, land, d, k) ? 1 : 0;
    }

    public int point(int film, int land, int n) {
        if (!films.has(film) || !isLand(land) || !within(n, 1, 20)) {
            return NONE;
        }
        return films.tellPoints(film, land, n);
    }

    public int prove(int point) {
        if (!films.hasPoints(point)) {
            return NONE;
        }
        return films.provePoints(point, today);
    }

    public int points(int film, int land, int k) {
        if (!films.has(film) || !isLand(land) || !isDay(k)) {
            return NONE;
        }
        return films.pointsBy(film, land, k);
    }

    // ---- costs

    public int set(int what, int v) {
        if (!within(what, 0, Costs.DRAFT - 1) || !within(v, 0, 99999)) {
            return NONE;
        }
        int before = costs.draft[what];
        costs.draft[what] = v;
        return before;
    }

    public int cost(int kind, int coins) {
        if (!within(kind, 1, Costs.KINDS - 1) || !within(coins, 1, MOST_COINS) || !isDraftSound(kind)) {
            return NONE;
        }
        return costs.add(kind, coins);
    }

    public int of(int cost, int what) {
        Cost row = costs.at(cost);
        if (row == null) {
            return NO_VALUE;
        }
        switch (what) {
            case 0: return row.kind;
            case 1: return row.film;
            case 2: return row.episode;
            case 3: return row.land;
            case 4: return row.coinsBy(today);
            case 5: return row.day;
            case 6: return row.who;
            case 7: return row.receipt;
            case 8: return row.sort;
            case 9: return row.audited();
            default: return NO_VALUE;
        }
    }

    public int like(int sort, int land, int day, int price) {
        if (!within(sort, 0, 19) || !isLand(land) || !within(day, 0, today) || !within(price, 1, MOST_COINS)) {
            return NONE;
        }
        return prices.tellLike(sort, land, day, price, today);
    }

    public int span(int cost, int k, int what) {
        Cost row = costs.at(cost);
        if (row == null || !isDay(k) || !within(what, 0, 3)) {
            return NONE;
        }
        int found = prices.gatherLikes(row.sort, row.land, row.day, k);
        if (what == 3) {
            return found;
        }
        if (found < 1) {
            return NOT;
        }
        if (what == 2) {
            return prices.middleLike();
        }
        return prices.sorted[what == 0 ? 0 : found - 1];
    }

    public int counted(int cost, int k, int what) {
        Cost row = costs.at(cost);
        if (row == null || !isDay(k)) {
            return NONE;
        }
        switch (what) {
            case 0: return claims.fairOf(row, k);
            case 1: return costs.isLaterDouble(row) ? 1 : 0;
            case 2: return claims.countedOf(row, k);
            case 3:
                claims.countedOf(row, k);
                return claims.line;
            default: return NONE;
        }
    }

    public int base(int film, int land, int episode, int k, int what) {
        if (!films.has(film) || !isLand(land) || !isDay(k)) {
            return NONE;
        }
        if (!within(episode, ALL, films.episodesOf[film] - 1)) {
            return NONE;
        }
        if (what == 0) {
            return claims.baseOf(film, land, episode, ALL, k);
        }
        if (what == 1 && episode == ALL) {
            return claims.dueOf(film, land, k);
        }
        return NONE;
    }

    // ---- acts of lands

    public int feed(int n, int v) {
        if (!within(n, 1, 4)) {
            return NONE;
        }
        return reader.take(n, v);
    }

    public int text(int what, int from) {
        if (!isAct(what) || !isDay(from)) {
            return NONE;
        }
        if (acts.size >= Acts.TEXTS) {
            return FULL;
        }
        int fault = reader.compile();
        reader.tapeSize = 0;
        if (fault >= 0) {
            return -100 - fault;
        }
        return acts.add(what, today, from, reader);
    }

    public int inForce(int what, int d, int k) {
        if (!isAct(what) || !isDay(d) || !isDay(k)) {
            return NONE;
        }
        return acts.find(what, d, k);
    }

    public int law(int land, int film, int d, int k, int what) {
        if (!isLand(land) || !films.has(film) || !isDay(d) || !isDay(k) || !within(what, RATE, TOP)) {
            return NONE;
        }
        return claims.lawOf(what, land, film, d, k);
    }

    // ---- certificates, loans

    public int cap(int land, int year, int v) {
        if (!isLand(land) || !within(year, 0, YEARS - 1) || !within(v, 0, MOST_MONEY)) {
            return NONE;
        }
        int i = land * YEARS + year;
        int before = queue.caps[i];
        queue.caps[i] = v;
        return before;
    }

    public int ask(int film, int land) {
        if (!films.has(film) || !isLand(land)) {
            return NONE;
        }
        return queue.add(film, land, today);
    }

    public int given(int certificate, int what) {
        int year = today / YEAR_DAYS;
        if (!queue.has(certificate) || !within(what, ALL, year)) {
            return NONE;
        }
        int all = queue.deal(certificate, year, today);
        return what == ALL ? all : queue.gave[what];
    }

    public int foretold(int certificate) {
        if (!queue.has(certificate)) {
            return NONE;
        }
        queue.deal(certificate, YEARS - 1, today);
        return queue.wholeIn;
    }

    public int loan(int certificate, int lender, int coins, int rank) {
        if (!queue.has(certificate) || !within(lender, 0, 19)) {
            return NONE;
        }
        if (!within(coins, 1, MOST_MONEY) || !within(rank, 0, Queue.RANKS - 1)) {
            return NONE;
        }
        return queue.lend(certificate, coins, rank);
    }

    public int advance(int certificate) {
        if (!queue.has(certificate)) {
            return NONE;
        }
        if (queue.advances[certificate] >= 0 || queue.settled[certificate]) {
            return STATE;
        }
        return queue.payHalf(certificate, today);
    }

    public int settle(int certificate) {
        if (!queue.has(certificate)) {
            return NONE;
        }
        if (queue.settled[certificate]) {
            return STATE;
        }
        int all = queue.deal(certificate, today / YEAR_DAYS, today);
        return queue.close(certificate, all);
    }

    public int repaid(int loan, int what) {
        if (!within(loan, 0, queue.loans - 1) || !within(what, 0, 1)) {
            return NONE;
        }
        return what == 0 ? queue.loanPaid[loan] : queue.loanCoins[loan] - queue.loanPaid[loan];
    }

    public int got(int house) {
        if (!houses.has(house)) {
            return NONE;
        }
        return houses.purseOf[house];
    }

    // ---- joint ones, gains, audits

    public int move(int coins, int lands) {
        if (!within(coins, 1, 9999) || !within(lands, 1, (1 << LANDS) - 1)) {
            return NONE;
        }
        return treaty.add(coins, lands);
    }

    public int split(int film, int lands, int least) {
        if (!films.has(film) || !within(lands, 1, (1 << LANDS) - 1) || !within(least, 0, 50)) {
            return NONE;
        }
        if (!within(Integer.bitCount(lands), 2, Treaty.PARTNERS)) {
            return NONE;
        }
        return treaty.findBest(film, lands, least, today);
    }

    public int moved(int i) {
        if (!within(i, 0, treaty.chosen - 1)) {
            return NONE;
        }
        return treaty.chosenLand[i];
    }

    public int without() {
        return treaty.chosen == 0 ? NONE : treaty.lost;
    }

    public int gain(int land, int year, int ab, int tax, int what) {
        if (!isLand(land) || !within(year, 0, YEARS - 1) || !within(tax, 0, 100) || !within(what, 0, 1)) {
            return NO_VALUE;
        }
        int a = ab / 1000;
        int b = ab % 1000;
        if (!within(a, 0, 100) || !within(b, 0, 100)) {
            return NO_VALUE;
        }
        return claims.gainOf(land, year, what == 0 ? a : b, tax, today);
    }

    public int audit(int cost, int coins) {
        Cost row = costs.at(cost);
        if (row == null || !within(coins, 0, row.coins - 1)) {
            return NONE;
        }
        return costs.find(row, coins, today);
    }

    public int lots(int z) {
        costs.z = z;
        return 1;
    }

    public int draw(int film) {
        if (!films.has(film)) {
            return NONE;
        }
        return costs.drawOf(film);
    }

    public int bound(int film) {
        if (!films.has(film)) {
            return NONE;
        }
        return costs.boundOf(film);
    }

    public int tryText(int text) {
        if (!acts.has(text) || acts.what[text] % 10 > RATE) {
            return NONE;
        }
        acts.tried = text;
        long sum = 0;
        for (int film = 0; film < films.size; film++) {
            sum += claims.dueOf(film, acts.what[text] / 10, today);
        }
        acts.tried = NONE;
        return (int) Math.min(sum, HELD);
    }

    public int twice(int what) {
        if (!within(what, 0, 2)) {
            return NONE;
        }
        return costs.twos(what);
    }

    // ---- acts of costs

    public int act(int cost, int act, int x) {
        Cost row = costs.at(cost);
        if (row == null || !within(act, 0, 2)) {
            return NO_VALUE;
        }
        costs.ran = 0;
        return costs.perform(row, act, row.kind, x, row.coinsBy(today), 0);
    }

    public int trace(int i) {
        if (!within(i, 0, costs.ran - 1)) {
            return NONE;
        }
        return costs.bodies[i];
    }

    public int taken(int cost, int k) {
        Cost row = costs.at(cost);
        if (row == null || !within(k, 0, Costs.KINDS - 1)) {
            return NONE;
        }
        return Costs.isUnder(row.kind, k) ? row.kind : CAST;
    }

    public int count(int what) {
        switch (what) {
            case 0: return houses.size;
            case 1: return films.size;
            case 2: return persons.size;
            case 3: return today;
            case 4: return costs.size;
            case 5: return persons.stays;
            case 6: return prices.likes;
            case 7: return acts.size;
            case 8: return reader.tapeSize;
            case 9: return queue.size;
            case 10: return queue.loans;
            case 11: return costs.auditedOnes;
            case 12: return houses.allPurses();
            case 13: return queue.allRepaid();
            default: return NONE;
        }
    }

    // ---- what the face asks of numbers

    private static boolean within(int v, int least, int most) {
        return v >= least && v <= most;
    }

    private static boolean isLand(int land) {
        return within(land, 0, LANDS - 1);
    }

    private static boolean isDay(int day) {
        return within(day, 0, LAST_DAY);
    }

    private static boolean isAct(int what) {
        return within(what, 0, LANDS * 10 - 1) && what % 10 <= DOUBLES;
    }

    private boolean isDraftSound(int kind) {
        int film = costs.draft[Costs.FILM];
        if (!films.has(film) || costs.draft[Costs.EPISODE] >= films.episodesOf[film]) {
            return false;
        }
        if (!isLand(costs.draft[Costs.LAND]) || costs.draft[Costs.DAY] > today) {
            return false;
        }
        if (costs.draft[Costs.RECEIPT] < 1 || costs.draft[Costs.SORT] > 19) {
            return false;
        }
        int who = costs.draft[Costs.WHO];
        return Costs.isUnder(kind, Costs.GOODS) ? houses.has(who) : persons.has(who);
    }

    /** Houses, what they got, and which are related from which day on. */
    private static final class Houses {
        private static final int MOST = 20;
        private static final int NEVER = LAST_DAY + 1;

        private final int[] landOf = new int[MOST];
        private final int[] purseOf = new int[MOST];
        private final int[] relatedOn = new int[MOST * MOST];
        private int size;

        private Houses() {
            Arrays.fill(relatedOn, NEVER);
        }

        private boolean has(int house) {
            return house >= 0 && house < size;
        }

        private boolean isIn(int house, int land) {
            return has(house) && landOf[house] == land;
        }

        private int add(int land) {
            if (size >= MOST) {
                return FULL;
            }
            landOf[size] = land;
            size++;
            return size - 1;
        }

        private boolean areRelatedBy(int a, int b, int k) {
            int i = a * MOST + b;
            return i >= 0 && i < relatedOn.length && relatedOn[i] <= k;
        }

        private int tie(int a, int b, int day) {
            if (areRelatedBy(a, b, LAST_DAY)) {
                return STATE;
            }
            relatedOn[a * MOST + b] = day;
            relatedOn[b * MOST + a] = day;
            return 1;
        }

        private void pay(int house, int coins) {
            if (has(house)) {
                purseOf[house] += coins;
            }
        }

        private int allPurses() {
            int sum = 0;
            for (int i = 0; i < size; i++) {
                sum += purseOf[i];
            }
            return sum;
        }
    }

    /** Films, their present houses, and the points that they have in lands. */
    private static final class Films {
        private static final int MOST = 20;
        private static final int TELLINGS = 100;
        private static final int NEVER = LAST_DAY + 1;

        private final int[] houseOf = new int[MOST];
        private final int[] episodesOf = new int[MOST];
        private final int[] pointFilm = new int[TELLINGS];
        private final int[] pointLand = new int[TELLINGS];
        private final int[] pointSize = new int[TELLINGS];
        private final int[] provedOn = new int[TELLINGS];
        private int size;
        private int tellings;

        private boolean has(int film) {
            return film >= 0 && film < size;
        }

        private int add(int house, int episodes) {
            if (size >= MOST) {
                return FULL;
            }
            houseOf[size] = house;
            episodesOf[size] = episodes;
            size++;
            return size - 1;
        }

        private boolean hasPoints(int point) {
            return point >= 0 && point < tellings;
        }

        private int tellPoints(int film, int land, int n) {
            if (tellings >= TELLINGS) {
                return FULL;
            }
            pointFilm[tellings] = film;
            pointLand[tellings] = land;
            pointSize[tellings] = n;
            provedOn[tellings] = NEVER;
            tellings++;
            return tellings - 1;
        }

        private int provePoints(int point, int day) {
            if (provedOn[point] != NEVER) {
                return STATE;
            }
            provedOn[point] = day;
            return 1;
        }

        private int pointsBy(int film, int land, int k) {
            int sum = 0;
            for (int i = 0; i < tellings; i++) {
                if (pointFilm[i] == film && pointLand[i] == land && provedOn[i] <= k) {
                    sum += pointSize[i];
                }
            }
            return sum;
        }
    }

    /** Persons, their homes, and where they stayed. */
    private static final class Persons {
        private static final int MOST = 60;
        private static final int MOST_STAYS = 200;
        private static final int DAYS_TO_LIVE = 183;

        private final int[] homeOf = new int[MOST];
        private final int[] stayPerson = new int[MOST_STAYS];
        private final int[] stayLand = new int[MOST_STAYS];
        private final int[] stayFrom = new int[MOST_STAYS];
        private final int[] stayTo = new int[MOST_STAYS];
        private final int[] stayTold = new int[MOST_STAYS];
        private final int[] landAt = new int[YEAR_DAYS];
        private int size;
        private int stays;

        private boolean has(int person) {
            return person >= 0 && person < size;
        }

        private int add(int land) {
            if (size >= MOST) {
                return FULL;
            }
            homeOf[size] = land;
            size++;
            return size - 1;
        }

        private int tellStay(int person, int land, int from, int to, int day) {
            if (stays >= MOST_STAYS) {
                return FULL;
            }
            stayPerson[stays] = person;
            stayLand[stays] = land;
            stayFrom[stays] = from;
            stayTo[stays] = to;
            stayTold[stays] = day;
            stays++;
            return stays;
        }

        private boolean livesIn(int person, int land, int d, int k) {
            if (!has(person)) {
                return false;
            }
            int first = d - YEAR_DAYS + 1;
            Arrays.fill(landAt, homeOf[person]);
            // a later telling goes over an earlier one
            for (int s = 0; s < stays; s++) {
                if (stayPerson[s] == person && stayTold[s] <= k) {
                    int low = Math.max(stayFrom[s], first);
                    int high = Math.min(stayTo[s], d);
                    for (int day = low; day <= high; day++) {
                        landAt[day - first] = stayLand[s];
                    }
                }
            }
            int there = 0;
            for (int i = 0; i < YEAR_DAYS; i++) {
                if (landAt[i] == land) {
                    there++;
                }
            }
            return there >= DAYS_TO_LIVE;
        }
    }

    /** Coins of lands by days, and the prices of like things. */
    private static final class Prices {
        private static final int COINS_OF_A_LAND = 20;
        private static final int MOST_LIKES = 120;
        private static final int NEAR = 90;

        private final int[] coinFrom = new int[LANDS * COINS_OF_A_LAND];
        private final int[] coinWorth = new int[LANDS * COINS_OF_A_LAND];
        private final int[] coinsTold = new int[LANDS];
        private final int[] likeSort = new int[MOST_LIKES];
        private final int[] likeLand = new int[MOST_LIKES];
        private final int[] likeDay = new int[MOST_LIKES];
        private final int[] likePrice = new int[MOST_LIKES];
        private final int[] likeTold = new int[MOST_LIKES];
        private final int[] sorted = new int[MOST_LIKES];
        private int likes;
        private int found;

        private int tellCoin(int land, int day, int worth) {
            int n = coinsTold[land];
            if (n >= COINS_OF_A_LAND) {
                return FULL;
            }
            coinFrom[land * COINS_OF_A_LAND + n] = day;
            coinWorth[land * COINS_OF_A_LAND + n] = worth;
            coinsTold[land] = n + 1;
            return n + 1;
        }

        private int coinOf(int land, int day) {
            int worth = 1000;
            int latest = -1;
            int start = land * COINS_OF_A_LAND;
            int told = isLand(land) ? coinsTold[land] : 0;
            for (int i = start; i < start + told; i++) {
                if (coinFrom[i] <= day && coinFrom[i] >= latest) {
                    latest = coinFrom[i];
                    worth = coinWorth[i];
                }
            }
            return worth;
        }

        private int tellLike(int sort, int land, int day, int price, int told) {
            if (likes >= MOST_LIKES) {
                return FULL;
            }
            likeSort[likes] = sort;
            likeLand[likes] = land;
            likeDay[likes] = day;
            likePrice[likes] = price;
            likeTold[likes] = told;
            likes++;
            return likes;
        }

        /** Puts the likes of a day, known by k, into the sorted row; answers how many. */
        private int gatherLikes(int sort, int land, int day, int k) {
            found = 0;
            for (int i = 0; i < likes; i++) {
                boolean near = Math.abs(likeDay[i] - day) <= NEAR;
                if (near && likeSort[i] == sort && likeLand[i] == land && likeTold[i] <= k) {
                    putSorted(likePrice[i]);
                }
            }
            return found;
        }

        private void putSorted(int price) {
            int at = found;
            while (at > 0 && sorted[at - 1] > price) {
                sorted[at] = sorted[at - 1];
                at--;
            }
            sorted[at] = price;
            found++;
        }

        /** The middle one of the likes gathered last, the lower of two; 0 without any. */
        private int middleLike() {
            return found < 1 ? 0 : sorted[(found - 1) / 2];
        }
    }

    /** One cost, and what an audit found of it. */
    private static final class Cost {
        private final int number;
        private final int kind;
        private final int coins;
        private final boolean toHouse;
        private final int film;
        private final int episode;
        private final int land;
        private final int day;
        private final int who;
        private final int receipt;
        private final int sort;
        private int auditedOn = -1;
        private int tooMuch;

        private Cost(int number, int kind, int coins, int[] draft) {
            this.number = number;
            this.kind = kind;
            this.coins = coins;
            toHouse = Costs.isUnder(kind, Costs.GOODS);
            film = draft[Costs.FILM];
            episode = draft[Costs.EPISODE];
            land = draft[Costs.LAND];
            day = draft[Costs.DAY];
            who = draft[Costs.WHO];
            receipt = draft[Costs.RECEIPT];
            sort = draft[Costs.SORT];
        }

        private int coinsBy(int k) {
            return auditedOn >= 0 && k >= auditedOn ? coins - tooMuch : coins;
        }

        private int audited() {
            if (auditedOn < 0) {
                return 0;
            }
            return tooMuch == 0 ? 1 : 2;
        }

        private boolean isTwiceWith(Cost other) {
            return receipt == other.receipt && (film != other.film || land != other.land);
        }
    }

    /** All costs in their order: doubles, audits, and the bodies of their kinds. */
    private static final class Costs {
        private static final int MOST = 150;
        private static final int KINDS = 7;
        private static final int GOODS = 2;
        private static final int DRAFT = 7;
        private static final int FILM = 0;
        private static final int EPISODE = 1;
        private static final int LAND = 2;
        private static final int DAY = 3;
        private static final int WHO = 4;
        private static final int RECEIPT = 5;
        private static final int SORT = 6;
        private static final int MOST_BODIES = 24;
        private static final int DEEPEST = 30;
        private static final int MOST_BOUND = 30;

        private static final int SPENDS = 0;
        private static final int COUNTING = 1;
        private static final int PROVES = 2;
        private static final int[] ABOVE = {-1, 0, 0, 2, 0, 2, 4};
        private static final int[] BODIES = {
            10, 0, 30, 0, 0, 60, 0,
            11, 20, 0, 0, 50, 0, 70,
            12, 0, 0, 40, 0, 61, 0};

        private final Cost[] rows = new Cost[MOST];
        private final int[] draft = new int[DRAFT];
        private final int[] bodies = new int[MOST_BODIES];
        private final int[] landsOf = new int[Films.MOST];
        private int size;
        private int auditedOnes;
        private int ran;
        private int z = 1;

        private static int aboveOf(int kind) {
            return kind >= 0 && kind < KINDS ? ABOVE[kind] : -1;
        }

        private static boolean isUnder(int kind, int k) {
            int at = kind;
            for (int up = 0; up < KINDS && at > k; up++) {
                at = aboveOf(at);
            }
            return at == k;
        }

        private Cost at(int cost) {
            return cost >= 0 && cost < size ? rows[cost] : null;
        }

        private int add(int kind, int coins) {
            if (size >= MOST) {
                return FULL;
            }
            Cost row = new Cost(size, kind, coins, draft);
            rows[size] = row;
            landsOf[row.film] |= 1 << row.land;
            size++;
            return size - 1;
        }

        private boolean isLaterDouble(Cost row) {
            for (int i = 0; i < row.number; i++) {
                if (areTwice(at(i), row)) {
                    return true;
                }
            }
            return false;
        }

        private static boolean areTwice(Cost a, Cost b) {
            return a != null && b != null && a.isTwiceWith(b);
        }

        /** How many twos, or a cost of the first two. */
        private int twos(int what) {
            int n = 0;
            int first = NOT;
            int second = NOT;
            for (int i = 0; i < size; i++) {
                for (int j = i + 1; j < size; j++) {
                    if (areTwice(at(i), at(j))) {
                        if (n == 0) {
                            first = i;
                            second = j;
                        }
                        n++;
                    }
                }
            }
            if (what == 0) {
                return n == 0 ? NOT : n;
            }
            return what == 1 ? first : second;
        }

        private int find(Cost row, int tooMuch, int day) {
            if (row.auditedOn >= 0) {
                return STATE;
            }
            row.auditedOn = day;
            row.tooMuch = tooMuch;
            auditedOnes++;
            return auditedOnes;
        }

        /** Whether a cost is the film's, and was not audited. */
        private boolean isOpen(int cost, int film) {
            Cost row = at(cost);
            return row != null && row.film == film && row.auditedOn < 0;
        }

        private int drawOf(int film) {
            int open = 0;
            for (int i = 0; i < size; i++) {
                if (isOpen(i, film)) {
                    open++;
                }
            }
            if (open == 0) {
                return NOT;
            }
            z = z * 1103515245 + 12345;
            int left = (z >>> 8) % open;
            for (int i = 0; i < size; i++) {
                if (isOpen(i, film)) {
                    if (left == 0) {
                        return i;
                    }
                    left--;
                }
            }
            return NOT;
        }

        private int boundOf(int film) {
            int n = 0;
            int drawn = 0;
            int wrong = 0;
            for (int i = 0; i < size; i++) {
                Cost row = at(i);
                if (row != null && row.film == film) {
                    int state = row.audited();
                    n++;
                    drawn += state > 0 ? 1 : 0;
                    wrong += state > 1 ? 1 : 0;
                }
            }
            if (n > MOST_BOUND) {
                return BIG;
            }
            if (drawn == 0) {
                return n;
            }
            int most = n - drawn + wrong;
            while (most > wrong && !isLikely(n, drawn, wrong, most)) {
                most--;
            }
            return most;
        }

        /** Whether w or fewer of c drawn are wrong by 5 of 100 at least, if all of n have that many wrong ones. */
        private static boolean isLikely(int n, int c, int w, int wrongInAll) {
            long ways = 0;
            for (int i = 0; i <= w; i++) {
                ways += choices(wrongInAll, i) * choices(n - wrongInAll, c - i);
            }
            return ways * 100 >= choices(n, c) * 5;
        }

        private static long choices(int n, int k) {
            if (k < 0 || k > n) {
                return 0;
            }
            long ways = 1;
            for (int i = 1; i <= k; i++) {
                ways = ways * (n - k + i) / i;
            }
            return ways;
        }

        private static int bodyOf(int act, int kind) {
            int i = act * KINDS + kind;
            return kind >= 0 && kind < KINDS && i >= 0 && i < BODIES.length ? BODIES[i] : 0;
        }

        /** The kind itself, or the next above that has a body of the act. */
        private static int kindWithBody(int act, int from) {
            int kind = from;
            for (int up = 0; up < KINDS && kind > 0 && bodyOf(act, kind) == 0; up++) {
                kind = aboveOf(kind);
            }
            return kind;
        }

        /** Runs the act's body of a kind, or of the next above that has one. */
        private int perform(Cost row, int act, int from, int x, int c, int depth) {
            int kind = kindWithBody(act, from);
            if (kind < 0 || depth > DEEPEST) {
                return 0;
            }
            int body = bodyOf(act, kind);
            if (ran < MOST_BODIES) {
                bodies[ran] = body;
                ran++;
            }
            int above = aboveOf(kind);
            int deep = depth + 1;
            switch (body) {
                case 10: return x + c;
                case 11: return perform(row, SPENDS, row.kind, x, c, deep) * 2;
                case 12: return perform(row, COUNTING, row.kind, x, c, deep) - row.number;
                case 20: return perform(row, COUNTING, above, x, c, deep) ^ 9;
                case 30: return perform(row, SPENDS, above, x, c, deep) - 4;
                case 40:
                    int proved = perform(row, PROVES, above, x, c, deep);
                    return proved + perform(row, COUNTING, row.kind, 1, c, deep);
                case 50: return -perform(row, COUNTING, above, x, c, deep);
                case 60: return perform(row, SPENDS, above, x + 1, c, deep);
                case 61: return perform(row, PROVES, above, x, c, deep) * 3;
                case 70:
                    int counting = perform(row, COUNTING, above, x, c, deep);
                    return counting - perform(row, SPENDS, row.kind, 2, c, deep);
                default: return 0;
            }
        }
    }

    /** The tape, and what makes codes of it: numbers as they are, names below 0, signs below names. */
    private static final class Reader {
        private static final int TAPE = 160;
        private static final int MOST_OPEN = 8;
        private static final int MOST_DIGITS = 6;
        private static final int COMPARING = 2;
        private static final int OPERANDS = 5;
        private static final String NAMES = "kscelrypnj";

        private final int[] tape = new int[TAPE];
        private final int[] codes = new int[TAPE + 1];
        private int tapeSize;
        private int size;
        private int at;
        private boolean sound;

        private int take(int n, int v) {
            if (tapeSize + n > TAPE) {
                return FULL;
            }
            for (int i = 0; i < n; i++) {
                tape[tapeSize] = v >>> 8 * i & 255;
                tapeSize++;
            }
            return tapeSize;
        }

        /** Answers -1, or the place of the fault. */
        private int compile() {
            at = 0;
            size = 0;
            sound = true;
            readLine();
            while (sound && at < tapeSize && tape[at] == ';') {
                at++;
                readLine();
            }
            return sound && at >= tapeSize ? -1 : at;
        }

        private int next() {
            return at < tapeSize ? tape[at] : -1;
        }

        private void put(int code) {
            if (size < codes.length) {
                codes[size] = code;
                size++;
            }
        }

        private void readLine() {
            readPart(0, 0);
            if (sound && next() == '?') {
                at++;
                put(-'?');
                readPart(0, 0);
            }
            put(-';');
        }

        /** Reads parts of a level of binding, 0 the loosest, parted by the signs of that level. */
        private void readPart(int level, int open) {
            if (level >= OPERANDS) {
                readOperand(open);
                return;
            }
            readPart(level + 1, open);
            while (sound && at < tapeSize && isSign(tape[at], level)) {
                int sign = tape[at];
                at++;
                readPart(level + 1, open);
                put(-sign);
                if (level == COMPARING) {
                    return;
                }
            }
        }

        private static boolean isSign(int c, int level) {
            switch (level) {
                case 0: return c == '|';
                case 1: return c == '&';
                case 2: return c == '<' || c == '=' || c == '>';
                case 3: return c == '+' || c == '-';
                default: return c == '*' || c == '/' || c == '%';
            }
        }

        private void readOperand(int open) {
            int c = next();
            int name = c < 0 ? -1 : NAMES.indexOf((char) c);
            if (c >= '0' && c <= '9') {
                readNumber();
            } else if (name >= 0) {
                at++;
                put(-1 - name);
            } else if (c == '!' && open < MOST_OPEN) {
                at++;
                readOperand(open + 1);
                put(-'!');
            } else if (c == '(' && open < MOST_OPEN) {
                at++;
                readPart(0, open + 1);
                sound = sound && next() == ')';
                if (sound) {
                    at++;
                }
            } else {
                sound = false;
            }
        }

        private void readNumber() {
            int number = 0;
            for (int i = 0; i < MOST_DIGITS && next() >= '0' && next() <= '9'; i++) {
                number = number * 10 + next() - '0';
                at++;
            }
            put(number);
        }
    }

    /** The texts that are acts of lands, and the runner of their codes. */
    private static final class Acts {
        private static final int TEXTS = 20;
        private static final int LIVES = 4;
        private static final int FACTS = 10;

        private final int[][] codes = new int[TEXTS][];
        private final int[] what = new int[TEXTS];
        private final int[] made = new int[TEXTS];
        private final int[] from = new int[TEXTS];
        private final boolean[] asksHome = new boolean[TEXTS];
        private final int[] facts = new int[FACTS];
        private final int[] stack = new int[Reader.TAPE + 1];
        private int size;
        private int tried = NONE;
        private int line;
        private int held;

        private boolean has(int text) {
            return text >= 0 && text < size;
        }

        private int add(int act, int day, int start, Reader reader) {
            what[size] = act;
            made[size] = day;
            from[size] = start;
            codes[size] = Arrays.copyOf(reader.codes, reader.size);
            for (int i = 0; i < reader.size; i++) {
                if (reader.codes[i] == -1 - LIVES) {
                    asksHome[size] = true;
                }
            }
            size++;
            return size - 1;
        }

        /** The text in force, or the one that is tried in its place. */
        private int find(int act, int d, int k) {
            if (has(tried) && what[tried] == act) {
                return tried;
            }
            for (int i = size - 1; i >= 0; i--) {
                if (what[i] == act && made[i] <= k && from[i] <= d) {
                    return i;
                }
            }
            return NOT;
        }

        /** Works the text out with the facts; its line is left behind. */
        private int run(int text) {
            int[] code = has(text) ? codes[text] : null;
            line = 0;
            held = 0;
            for (int i = 0; code != null && i < code.length; i++) {
                int c = code[i];
                if (c >= 0) {
                    push(c);
                } else if (c >= -FACTS) {
                    push(facts[-1 - c]);
                } else if (c == -';') {
                    return pop();
                } else if (c == -'?') {
                    if (pop() == 0) {
                        i = endOfLine(code, i);
                        line++;
                    }
                } else if (c == -'!') {
                    push(pop() == 0 ? 1 : 0);
                } else {
                    int right = pop();
                    push(join(-c, pop(), right));
                }
            }
            line = -1;
            return 0;
        }

        private static int endOfLine(int[] code, int start) {
            int i = start;
            while (i < code.length && code[i] != -';') {
                i++;
            }
            return i;
        }

        private void push(int v) {
            if (held < stack.length) {
                stack[held] = v;
                held++;
            }
        }

        private int pop() {
            if (held < 1) {
                return 0;
            }
            held--;
            return stack[held];
        }

        private static int join(int sign, int a, int b) {
            switch (sign) {
                case '|': return a != 0 || b != 0 ? 1 : 0;
                case '&': return a != 0 && b != 0 ? 1 : 0;
                case '<': return a < b ? 1 : 0;
                case '=': return a == b ? 1 : 0;
                case '>': return a > b ? 1 : 0;
                case '+': return a + b;
                case '-': return a - b;
                case '*': return a * b;
                case '/': return b == 0 ? 0 : a / b;
                case '%': return b == 0 ? 0 : a % b;
                default: return 0;
            }
        }
    }

    /** What counts of costs, what films can claim of lands, and what lands gain by it. */
    private static final class Claims {
        private static final int[] WITHOUT_ACT = {100, 30, 0, MOST_MONEY, 0};

        private final Houses houses;
        private final Films films;
        private final Persons persons;
        private final Prices prices;
        private final Costs costs;
        private final Acts acts;
        private int line;

        private Claims(Houses houses, Films films, Persons persons, Prices prices, Costs costs, Acts acts) {
            this.houses = houses;
            this.films = films;
            this.persons = persons;
            this.prices = prices;
            this.costs = costs;
            this.acts = acts;
        }

        private boolean isRelated(Cost row, int k) {
            return row.toHouse && films.has(row.film) && houses.areRelatedBy(row.who, films.houseOf[row.film], k);
        }

        private int fairOf(Cost row, int k) {
            int coins = row.coinsBy(k);
            if (!isRelated(row, k)) {
                return coins;
            }
            prices.gatherLikes(row.sort, row.land, row.day, k);
            return Math.min(coins, prices.middleLike());
        }

        /** What of a cost counts in its land; the line that says so is left behind. */
        private int countedOf(Cost row, int k) {
            line = -1;
            if (costs.isLaterDouble(row) && lawOf(DOUBLES, row.land, row.film, row.day, k) == 0) {
                return 0;
            }
            long worth = (long) fairOf(row, k) * prices.coinOf(row.land, row.day) / 1000;
            return (int) (worth * hundredthsOf(row, k) / 100);
        }

        private int hundredthsOf(Cost row, int k) {
            int text = acts.find(row.land * 10 + COUNTS, row.day, k);
            if (text < 0) {
                return WITHOUT_ACT[COUNTS];
            }
            int[] facts = acts.facts;
            facts[0] = row.kind;
            facts[1] = row.sort;
            facts[2] = row.coinsBy(k);
            facts[3] = row.episode;
            facts[5] = isRelated(row, k) ? 1 : 0;
            if (row.toHouse) {
                facts[Acts.LIVES] = houses.isIn(row.who, row.land) ? 1 : 0;
            } else if (acts.asksHome[text]) {
                // a year of days is looked at: only where the text asks
                facts[Acts.LIVES] = persons.livesIn(row.who, row.land, row.day, k) ? 1 : 0;
            }
            putFilmFacts(row.film, row.land, row.day, k);
            int v = acts.run(text);
            line = acts.line;
            return Math.max(0, Math.min(v, 100));
        }

        private void putFilmFacts(int film, int land, int d, int k) {
            acts.facts[6] = d / YEAR_DAYS;
            acts.facts[7] = films.pointsBy(film, land, k);
            acts.facts[8] = films.has(film) ? films.episodesOf[film] : 0;
            acts.facts[9] = films.has(film) ? Integer.bitCount(costs.landsOf[film]) : 0;
        }

        /** What an act of a land, but for COUNTS, says of a film. */
        private int lawOf(int use, int land, int film, int d, int k) {
            int text = acts.find(land * 10 + use, d, k);
            if (text < 0) {
                return WITHOUT_ACT[use];
            }
            Arrays.fill(acts.facts, 0);
            putFilmFacts(film, land, d, k);
            int v = acts.run(text);
            if (use == DOUBLES) {
                return v;
            }
            return Math.max(0, Math.min(v, use == RATE ? 100 : MOST_MONEY));
        }

        /** The sum of what counts of a film's costs; of one episode and of one year, if not of all. */
        private int baseOf(int film, int land, int episode, int year, int k) {
            long sum = 0;
            for (int i = 0; i < costs.size; i++) {
                Cost row = costs.at(i);
                if (row == null || row.film != film || row.land != land) {
                    continue;
                }
                boolean then = year == ALL || row.day / YEAR_DAYS == year;
                if (then && (episode == ALL || row.episode == episode)) {
                    sum += countedOf(row, k);
                }
            }
            return (int) Math.min(sum, HELD);
        }

        private int dueOf(int film, int land, int k) {
            if (films.pointsBy(film, land, k) < lawOf(NEED, land, film, k, k)) {
                return 0;
            }
            long base = baseOf(film, land, ALL, ALL, k);
            long part = base * lawOf(RATE, land, film, k, k) / 100;
            return (int) Math.min(part, lawOf(TOP, land, film, k, k));
        }

        private int gainOf(int land, int year, int part, int tax, int k) {
            int lastDay = year * YEAR_DAYS + YEAR_DAYS - 1;
            long spent = 0;
            long back = 0;
            for (int film = 0; film < films.size; film++) {
                long base = baseOf(film, land, ALL, year, k);
                spent += base;
                back += base * lawOf(RATE, land, film, lastDay, k) / 100;
            }
            return (int) (spent * part / 100 * tax / 100 - back);
        }
    }

    /** Certificates in their order, the caps of years, and the loans that are repaid of what is paid. */
    private static final class Queue {
        private static final int MOST = 60;
        private static final int MOST_LOANS = 60;
        private static final int RANKS = 3;

        private final Houses houses;
        private final Films films;
        private final Claims claims;
        private final int[] caps = new int[LANDS * YEARS];
        private final int[] filmOf = new int[MOST];
        private final int[] landOf = new int[MOST];
        private final int[] askedIn = new int[MOST];
        private final int[] advances = new int[MOST];
        private final boolean[] settled = new boolean[MOST];
        private final int[] wants = new int[MOST];
        private final int[] gave = new int[YEARS];
        private final int[] loanOn = new int[MOST_LOANS];
        private final int[] loanCoins = new int[MOST_LOANS];
        private final int[] loanRank = new int[MOST_LOANS];
        private final int[] loanPaid = new int[MOST_LOANS];
        private final long[] rests = new long[MOST_LOANS];
        private int size;
        private int loans;
        private int wholeIn;

        private Queue(Houses houses, Films films, Claims claims) {
            this.houses = houses;
            this.films = films;
            this.claims = claims;
            Arrays.fill(caps, MOST_MONEY);
        }

        private boolean has(int certificate) {
            return certificate >= 0 && certificate < size;
        }

        private int add(int film, int land, int day) {
            for (int i = 0; i < size; i++) {
                if (filmOf[i] == film && landOf[i] == land) {
                    return STATE;
                }
            }
            if (size >= MOST) {
                return FULL;
            }
            filmOf[size] = film;
            landOf[size] = land;
            askedIn[size] = day / YEAR_DAYS;
            advances[size] = NONE;
            size++;
            return size - 1;
        }

        /** Deals the caps of years to those up to a certificate; later ones take nothing from it. Answers all it gets. */
        private int deal(int certificate, int lastYear, int k) {
            int land = landOf[certificate];
            for (int i = 0; i <= certificate; i++) {
                wants[i] = landOf[i] == land ? claims.dueOf(filmOf[i], land, k) : 0;
            }
            int all = 0;
            wholeIn = NOT;
            for (int year = 0; year <= lastYear && year < YEARS; year++) {
                gave[year] = dealYear(certificate, land, year);
                all += gave[year];
                if (wholeIn == NOT && askedIn[certificate] <= year && wants[certificate] == 0) {
                    wholeIn = year;
                }
            }
            return all;
        }

        private int dealYear(int certificate, int land, int year) {
            int left = caps[land * YEARS + year];
            int gets = 0;
            for (int i = 0; i <= certificate; i++) {
                gets = landOf[i] == land && askedIn[i] <= year ? Math.min(wants[i], left) : 0;
                wants[i] -= gets;
                left -= gets;
            }
            return gets;
        }

        private int lend(int certificate, int coins, int rank) {
            if (settled[certificate]) {
                return STATE;
            }
            if (loans >= MOST_LOANS) {
                return FULL;
            }
            loanOn[loans] = certificate;
            loanCoins[loans] = coins;
            loanRank[loans] = rank;
            loans++;
            return loans - 1;
        }

        private int payHalf(int certificate, int k) {
            int half = claims.dueOf(filmOf[certificate], landOf[certificate], k) / 2;
            advances[certificate] = half;
            payOut(certificate, half);
            return half;
        }

        private int close(int certificate, int all) {
            int rest = all - Math.max(0, advances[certificate]);
            settled[certificate] = true;
            if (rest > 0) {
                payOut(certificate, rest);
            }
            return rest;
        }

        private void payOut(int certificate, int coins) {
            int left = coins;
            for (int rank = 0; rank < RANKS; rank++) {
                left = repay(certificate, rank, left);
            }
            int film = filmOf[certificate];
            if (films.has(film)) {
                houses.pay(films.houseOf[film], left);
            }
        }

        private boolean isOf(int loan, int certificate, int rank) {
            return loanOn[loan] == certificate && loanRank[loan] == rank;
        }

        /** Repays the loans of a rank; answers what is left. */
        private int repay(int certificate, int rank, int coins) {
            long owed = 0;
            for (int i = 0; i < loans; i++) {
                owed += isOf(i, certificate, rank) ? loanCoins[i] - loanPaid[i] : 0;
            }
            if (owed < 1 || coins < 1) {
                return coins;
            }
            int shared = (int) Math.min(coins, owed);
            int left = shared;
            for (int i = 0; i < loans; i++) {
                rests[i] = 0;
                if (isOf(i, certificate, rank)) {
                    long part = (long) (loanCoins[i] - loanPaid[i]) * shared;
                    rests[i] = part % owed;
                    loanPaid[i] += (int) (part / owed);
                    left -= (int) (part / owed);
                }
            }
            payRests(left);
            return coins - shared;
        }

        /** One coin each to the greatest rests, of like ones the earlier. */
        private void payRests(int coins) {
            for (int n = 0; n < coins && n < loans; n++) {
                int greatest = 0;
                for (int i = 1; i < loans; i++) {
                    if (rests[i] > rests[greatest]) {
                        greatest = i;
                    }
                }
                rests[greatest] = 0;
                loanPaid[greatest]++;
            }
        }

        private int allRepaid() {
            int sum = 0;
            for (int i = 0; i < loans; i++) {
                sum += loanPaid[i];
            }
            return sum;
        }
    }

    /** Movable costs, and the best way of lands for them. */
    private static final class Treaty {
        private static final int MOST = 9;
        private static final int PARTNERS = 3;

        private final Claims claims;
        private final int[] coinsOf = new int[MOST];
        private final int[] landsOf = new int[MOST];
        private final int[] chosenLand = new int[MOST];
        private final int[] partner = new int[PARTNERS];
        private final int[] rate = new int[PARTNERS];
        private final int[] sums = new int[PARTNERS];
        private final int[] way = new int[MOST];
        private int partners;
        private int size;
        private int chosen;
        private int lost;

        private Treaty(Claims claims) {
            this.claims = claims;
        }

        private int add(int coins, int lands) {
            if (size >= MOST) {
                return FULL;
            }
            coinsOf[size] = coins;
            landsOf[size] = lands;
            size++;
            return size;
        }

        private int findBest(int film, int lands, int least, int k) {
            if (size == 0) {
                return STATE;
            }
            seat(film, lands, k);
            int ways = 1;
            for (int i = 0; i < size; i++) {
                ways *= partners;
            }
            int best = NONE;
            int bestWay = 0;
            int free = NONE;
            for (int w = 0; w < ways; w++) {
                int back = worthOf(w);
                free = Math.max(free, back);
                if (back > best && isFair(least)) {
                    best = back;
                    bestWay = w;
                }
            }
            if (best < 0) {
                return NOT;
            }
            readWay(bestWay);
            for (int i = 0; i < size; i++) {
                chosenLand[i] = partner[way[i]];
            }
            chosen = size;
            lost = free - best;
            size = 0;
            return best;
        }

        private void seat(int film, int lands, int k) {
            partners = 0;
            for (int land = 0; land < LANDS && partners < PARTNERS; land++) {
                if ((lands >> land & 1) == 1) {
                    partner[partners] = land;
                    rate[partners] = claims.lawOf(RATE, land, film, k, k);
                    partners++;
                }
            }
        }

        /** Ways are numbers whose first digit is that of the first cost: so the first way is the least number. */
        private void readWay(int number) {
            int left = number;
            for (int i = size - 1; i >= 0 && partners > 0; i--) {
                way[i] = left % partners;
                left /= partners;
            }
        }

        /** What is got back by a way; NONE, if a cost can't be spent there. */
        private int worthOf(int number) {
            readWay(number);
            Arrays.fill(sums, 0);
            for (int i = 0; i < size; i++) {
                if ((landsOf[i] >> partner[way[i]] & 1) == 0) {
                    return NONE;
                }
                sums[way[i]] += coinsOf[i];
            }
            int back = 0;
            for (int p = 0; p < partners; p++) {
                back += rate[p] * sums[p] / 100;
            }
            return back;
        }

        private boolean isFair(int least) {
            int all = 0;
            for (int p = 0; p < partners; p++) {
                all += sums[p];
            }
            for (int p = 0; p < partners; p++) {
                if (sums[p] * 100 < least * all) {
                    return false;
                }
            }
            return true;
        }
    }
}
