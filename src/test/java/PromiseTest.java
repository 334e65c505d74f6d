/** Each promise of the document by ordinary inputs, its edges and wrong inputs; what is due is worked out by hand. */
public final class PromiseTest {
    private static final int NONE = -1, FULL = -2, STATE = -3, NOT = -4, BIG = -5, CAST = -6, NO_VALUE = -2000000000;
    private static int asked = 0;
    private static int wrong = 0;
    private static int promise = 0;

    private static void due(String what, long got, long want) {
        asked++;
        if (got != want) {
            wrong++;
            System.out.println("promise " + promise + ": " + what + " answered " + got + ", due is " + want);
        }
    }

    /** What was refused must have changed nothing that can be counted. */
    private static String state(ReelBack x) {
        StringBuilder all = new StringBuilder();
        for (int what = 0; what <= 13; what++) {
            all.append(x.count(what)).append(' ');
        }
        return all.toString();
    }

    private static void same(String what, String before, ReelBack x) {
        asked++;
        if (!before.equals(state(x))) {
            wrong++;
            System.out.println("promise " + promise + ": " + what + " changed " + before + "to " + state(x));
        }
    }

    private static void feed(ReelBack x, String bytes) {
        for (int i = 0; i < bytes.length(); i++) {
            x.feed(1, bytes.charAt(i));
        }
    }

    private static int make(ReelBack x, int what, int from, String bytes) {
        feed(x, bytes);
        return x.text(what, from);
    }

    private static void draft(ReelBack x, int film, int episode, int land, int day, int who, int receipt) {
        x.set(0, film);
        x.set(1, episode);
        x.set(2, land);
        x.set(3, day);
        x.set(4, who);
        x.set(5, receipt);
    }

    /** Two houses and persons of lands 0 and 1, a film of two episodes of house 0. */
    private static ReelBack studio() {
        ReelBack x = new ReelBack();
        x.house(0);
        x.house(1);
        x.person(0);
        x.person(1);
        x.film(0, 2);
        return x;
    }

    /** A film of its own, that house 0 makes, with one wage of so many coins in a land. */
    private static int filmOf(ReelBack x, int land, int coins) {
        int film = x.film(0, 1);
        draft(x, film, 0, land, x.count(3), 0, 100 + film);
        x.cost(1, coins);
        return film;
    }

    private static void p01NewObject() {
        ReelBack x = new ReelBack();
        for (int what = 0; what <= 13; what++) {
            due("count(" + what + ") of a new one", x.count(what), 0);
        }
        due("coinOn", x.coinOn(3, 0), 1000);
        due("inForce", x.inForce(0, 0, 0), NOT);
        due("set", x.set(5, 4), 0);
        due("cap", x.cap(2, 3, 1), 99999999);
        due("trace", x.trace(0), NONE);
        due("moved", x.moved(0), NONE);
        due("without", x.without(), NONE);
        due("twice", x.twice(1), NOT);
        // z is 1: the first drawing is by 1 * 1103515245 + 12345 = 1103527590, >>> 8 is 4310654
        ReelBack y = studio();
        draft(y, 0, 0, 0, 0, 0, 1);
        for (int i = 0; i < 7; i++) {
            y.cost(1, 10);
        }
        due("draw", y.draw(0), 4310654 % 7);
    }

    private static void p02Days() {
        ReelBack x = new ReelBack();
        due("days(1)", x.days(1), 1);
        due("days(360)", x.days(360), 361);
        due("days(0)", x.days(0), NONE);
        due("days(-1)", x.days(-1), NONE);
        due("days(361)", x.days(361), NONE);
        due("days(MAX)", x.days(Integer.MAX_VALUE), NONE);
        due("count(3)", x.count(3), 361);
        for (int i = 2; i <= 9; i++) {
            due("days(360)", x.days(360), 360 * i + 1);
        }
        due("beyond", x.days(359), NONE);
        due("to the last", x.days(358), 3599);
        due("beyond the last", x.days(1), NONE);
        due("count(3)", x.count(3), 3599);
    }

    private static void p03Coin() {
        ReelBack x = new ReelBack();
        due("first", x.coin(0, 0, 1), 1);
        due("second", x.coin(0, 3599, 99999), 2);
        due("other land", x.coin(5, 3, 700), 1);
        due("land -1", x.coin(-1, 3, 700), NONE);
        due("land 6", x.coin(6, 3, 700), NONE);
        due("day -1", x.coin(0, -1, 700), NONE);
        due("day 3600", x.coin(0, 3600, 700), NONE);
        due("v 0", x.coin(0, 3, 0), NONE);
        due("v 100000", x.coin(0, 3, 100000), NONE);
        for (int i = 3; i <= 20; i++) {
            due("more", x.coin(0, 5, 1000 + i), i);
        }
        due("the 21st", x.coin(0, 6, 5), FULL);
        due("refused ahead of FULL", x.coin(0, 3600, 5), NONE);
        due("not told", x.coinOn(0, 6), 1020);
        due("other land has room", x.coin(5, 3, 701), 2);
    }

    private static void p04CoinOn() {
        ReelBack x = new ReelBack();
        x.coin(2, 100, 2000);
        x.coin(2, 300, 3000);
        x.coin(2, 200, 2500);
        due("ahead of all", x.coinOn(2, 99), 1000);
        due("from its day", x.coinOn(2, 100), 2000);
        due("a later telling of an earlier day", x.coinOn(2, 250), 2500);
        due("the latest day", x.coinOn(2, 3599), 3000);
        x.coin(2, 300, 4);
        due("told last", x.coinOn(2, 300), 4);
        x.coin(2, 0, 9);
        due("from day 0", x.coinOn(2, 0), 9);
        due("still the latest day", x.coinOn(2, 301), 4);
        due("other land", x.coinOn(1, 300), 1000);
        due("land 6", x.coinOn(6, 0), NONE);
        due("land -1", x.coinOn(-1, 0), NONE);
        due("day -1", x.coinOn(0, -1), NONE);
        due("day 3600", x.coinOn(0, 3600), NONE);
    }

    private static void p05House() {
        ReelBack x = new ReelBack();
        due("land -1", x.house(-1), NONE);
        due("land 6", x.house(6), NONE);
        for (int i = 0; i < 20; i++) {
            due("house", x.house(i % 6), i);
        }
        due("the 21st", x.house(0), FULL);
        due("refused ahead of FULL", x.house(6), NONE);
        due("count(0)", x.count(0), 20);
    }

    private static void p06Relate() {
        ReelBack x = new ReelBack();
        x.house(0);
        x.house(0);
        x.house(0);
        due("same", x.relate(1, 1), NONE);
        due("no house", x.relate(0, 3), NONE);
        due("no house", x.relate(3, 0), NONE);
        due("no house", x.relate(-1, 0), NONE);
        due("related", x.relate(2, 0), 1);
        due("again", x.relate(2, 0), STATE);
        due("both ways", x.relate(0, 2), STATE);
        due("not through another", x.relate(1, 2), 1);
        due("so neither 0 and 1", x.relate(0, 1), 1);
        // from TODAY on, AS KNOWN: ahead of the telling FAIR is COINS
        ReelBack y = studio();
        draft(y, 0, 0, 0, 0, 1, 1);
        y.cost(2, 50);
        y.days(10);
        y.relate(0, 1);
        due("as known ahead", y.counted(0, 9, 0), 50);
        due("as known then", y.counted(0, 10, 0), 0);
    }

    private static void p07Film() {
        ReelBack x = new ReelBack();
        due("no house", x.film(0, 1), NONE);
        x.house(3);
        due("episodes 0", x.film(0, 0), NONE);
        due("episodes 10", x.film(0, 10), NONE);
        due("no house", x.film(1, 1), NONE);
        due("no house", x.film(-1, 1), NONE);
        for (int i = 0; i < 20; i++) {
            due("film", x.film(0, 1 + i % 9), i);
        }
        due("the 21st", x.film(0, 1), FULL);
        due("refused ahead of FULL", x.film(0, 0), NONE);
        due("count(1)", x.count(1), 20);
    }

    private static void p08Sell() {
        ReelBack x = studio();
        due("no film", x.sell(1, 0), NONE);
        due("no film", x.sell(-1, 0), NONE);
        due("no house", x.sell(0, 2), NONE);
        due("no house", x.sell(0, -1), NONE);
        due("the same", x.sell(0, 0), NONE);
        due("sold", x.sell(0, 1), 0);
        due("the same then", x.sell(0, 1), NONE);
        due("back", x.sell(0, 0), 1);
        // who gets what is paid from then on
        draft(x, 0, 0, 0, 0, 0, 1);
        x.cost(1, 1000);
        x.ask(0, 0);
        due("advance", x.advance(0), 150);
        x.sell(0, 1);
        due("settle", x.settle(0), 150);
        due("got by the first", x.got(0), 150);
        due("got by the second", x.got(1), 150);
    }

    private static void p09Person() {
        ReelBack x = new ReelBack();
        due("land -1", x.person(-1), NONE);
        due("land 6", x.person(6), NONE);
        for (int i = 0; i < 60; i++) {
            due("person", x.person(i % 6), i);
        }
        due("the 61st", x.person(0), FULL);
        due("refused ahead of FULL", x.person(6), NONE);
        due("count(2)", x.count(2), 60);
        due("home", x.lives(59, 5, 0, 0), 1);
    }

    private static void p10Stay() {
        ReelBack x = new ReelBack();
        due("no person", x.stay(0, 0, 0, 1), NONE);
        x.person(0);
        due("land 6", x.stay(0, 6, 0, 1), NONE);
        due("land -1", x.stay(0, -1, 0, 1), NONE);
        due("from -1", x.stay(0, 0, -1, 1), NONE);
        due("to 3600", x.stay(0, 0, 0, 3600), NONE);
        due("to ahead of from", x.stay(0, 0, 2, 1), NONE);
        for (int i = 1; i <= 200; i++) {
            due("stay", x.stay(0, 1, i, i), i);
        }
        due("the 201st", x.stay(0, 1, 0, 3599), FULL);
        due("refused ahead of FULL", x.stay(1, 1, 0, 3599), NONE);
        due("count(5)", x.count(5), 200);
        due("200 days there", x.lives(0, 1, 200, 0), 1);
    }

    private static void p11Lives() {
        ReelBack x = new ReelBack();
        x.person(2);
        due("at home, ahead of day 0 too", x.lives(0, 2, 0, 0), 1);
        due("not elsewhere", x.lives(0, 1, 0, 0), 0);
        x.stay(0, 1, 1000, 1182);
        due("183 days", x.lives(0, 1, 1182, 0), 1);
        due("182 days", x.lives(0, 1, 1181, 0), 0);
        due("177 days at home", x.lives(0, 2, 1182, 0), 0);
        due("178 days at home", x.lives(0, 2, 1181, 0), 0);
        due("183 days at home", x.lives(0, 2, 1176, 0), 1);
        due("the first leaves the window", x.lives(0, 1, 1360, 0), 0);
        due("the first is its first day", x.lives(0, 1, 1359, 0), 1);
        x.days(5);
        x.stay(0, 3, 1100, 1100);
        due("told last counts", x.lives(0, 1, 1182, 5), 0);
        due("as known ahead", x.lives(0, 1, 1182, 4), 1);
        due("no land has 183", x.lives(0, 3, 1182, 5), 0);
        due("no person", x.lives(1, 0, 0, 0), NONE);
        due("no person", x.lives(-1, 0, 0, 0), NONE);
        due("land", x.lives(0, 6, 0, 0), NONE);
        due("d", x.lives(0, 0, 3600, 0), NONE);
        due("d", x.lives(0, 0, -1, 0), NONE);
        due("k", x.lives(0, 0, 0, 3600), NONE);
        due("k", x.lives(0, 0, 0, -1), NONE);
    }

    private static void p12Point() {
        ReelBack x = studio();
        due("no film", x.point(1, 0, 1), NONE);
        due("no film", x.point(-1, 0, 1), NONE);
        due("land", x.point(0, 6, 1), NONE);
        due("n 0", x.point(0, 0, 0), NONE);
        due("n 21", x.point(0, 0, 21), NONE);
        for (int i = 0; i < 100; i++) {
            due("point", x.point(0, 0, 1 + i % 20), i);
        }
        due("the 101st", x.point(0, 0, 1), FULL);
        due("refused ahead of FULL", x.point(0, 0, 21), NONE);
        due("not proved", x.points(0, 0, 3599), 0);
    }

    private static void p13Prove() {
        ReelBack x = studio();
        due("none told", x.prove(0), NONE);
        x.point(0, 0, 20);
        due("no such", x.prove(1), NONE);
        due("no such", x.prove(-1), NONE);
        due("proved", x.prove(0), 1);
        due("again", x.prove(0), STATE);
        x.days(1);
        due("later", x.prove(0), STATE);
        due("still of its day", x.points(0, 0, 0), 20);
    }

    private static void p14Points() {
        ReelBack x = studio();
        x.film(0, 1);
        x.point(0, 0, 3);
        x.point(0, 0, 4);
        x.point(0, 1, 5);
        x.point(1, 0, 6);
        x.prove(1);
        x.days(7);
        x.prove(0);
        x.prove(2);
        x.prove(3);
        due("by day 6", x.points(0, 0, 6), 4);
        due("by day 7", x.points(0, 0, 7), 7);
        due("other land", x.points(0, 1, 7), 5);
        due("other film", x.points(1, 0, 7), 6);
        due("none there", x.points(1, 1, 7), 0);
        due("no film", x.points(2, 0, 0), NONE);
        due("land", x.points(0, -1, 0), NONE);
        due("k", x.points(0, 0, 3600), NONE);
        due("k", x.points(0, 0, -1), NONE);
    }

    private static void p15Set() {
        ReelBack x = new ReelBack();
        for (int what = 0; what <= 6; what++) {
            due("at first", x.set(what, 99999 - what), 0);
        }
        for (int what = 0; what <= 6; what++) {
            due("what it was", x.set(what, 0), 99999 - what);
        }
        due("what -1", x.set(-1, 0), NONE);
        due("what 7", x.set(7, 0), NONE);
        due("v -1", x.set(0, -1), NONE);
        due("v 100000", x.set(0, 100000), NONE);
        due("not changed", x.set(0, 0), 0);
        ReelBack y = studio();
        draft(y, 0, 1, 1, 0, 1, 9);
        y.cost(1, 5);
        due("stays behind a cost", y.set(5, 10), 9);
        due("stays behind a cost", y.cost(1, 5), 1);
        due("the new receipt", y.of(1, 7), 10);
        due("the old episode", y.of(1, 2), 1);
    }

    private static void p16Cost() {
        ReelBack x = studio();
        x.person(2);
        draft(x, 0, 0, 0, 0, 2, 1);
        String before = state(x);
        due("kind 0", x.cost(0, 5), NONE);
        due("kind 7", x.cost(7, 5), NONE);
        due("coins 0", x.cost(1, 0), NONE);
        due("coins 100000", x.cost(1, 100000), NONE);
        due("goods: no house 2", x.cost(2, 5), NONE);
        due("rent: no house 2", x.cost(3, 5), NONE);
        due("lot: no house 2", x.cost(5, 5), NONE);
        same("what was refused", before, x);
        due("a wage of person 2", x.cost(1, 1), 0);
        due("a fee of person 2", x.cost(4, 99999), 1);
        due("a carriage of person 2", x.cost(6, 5), 2);
        x.set(4, 1);
        due("goods of house 1", x.cost(2, 5), 3);
        due("rent of house 1", x.cost(3, 5), 4);
        due("lot of house 1", x.cost(5, 5), 5);
        x.set(4, 3);
        due("no person 3", x.cost(1, 5), NONE);
        x.set(4, 0);
        x.set(0, 1);
        due("no film 1", x.cost(1, 5), NONE);
        x.set(0, 0);
        x.set(1, 2);
        due("episode 2 of two", x.cost(1, 5), NONE);
        x.set(1, 1);
        x.set(2, 6);
        due("land 6", x.cost(1, 5), NONE);
        x.set(2, 5);
        x.set(3, 1);
        due("tomorrow", x.cost(1, 5), NONE);
        x.days(1);
        due("today", x.cost(1, 5), 6);
        x.set(5, 0);
        due("receipt 0", x.cost(1, 5), NONE);
        x.set(5, 99999);
        x.set(6, 20);
        due("sort 20", x.cost(1, 5), NONE);
        x.set(6, 19);
        for (int i = 7; i < 150; i++) {
            due("cost", x.cost(1, 5), i);
        }
        due("the 151st", x.cost(1, 5), FULL);
        due("refused ahead of FULL", x.cost(1, 0), NONE);
        due("count(4)", x.count(4), 150);
    }

    private static void p17Of() {
        ReelBack x = studio();
        x.film(1, 9);
        due("sold by the house that it was made for", x.sell(1, 0), 1);
        x.days(30);
        draft(x, 1, 8, 3, 20, 1, 777);
        x.set(6, 11);
        x.cost(5, 640);
        int[] want = {5, 1, 8, 3, 640, 20, 1, 777, 11, 0};
        for (int what = 0; what <= 9; what++) {
            due("of(0, " + what + ")", x.of(0, what), want[what]);
        }
        due("what -1", x.of(0, -1), NO_VALUE);
        due("what 10", x.of(0, 10), NO_VALUE);
        due("no cost", x.of(1, 0), NO_VALUE);
        due("no cost", x.of(-1, 0), NO_VALUE);
        x.cost(5, 640);
        x.audit(0, 40);
        x.audit(1, 0);
        due("coins as known today", x.of(0, 4), 600);
        due("wrong", x.of(0, 9), 2);
        due("right", x.of(1, 9), 1);
        due("right: as before", x.of(1, 4), 640);
    }

    private static void p18Like() {
        ReelBack x = new ReelBack();
        due("sort -1", x.like(-1, 0, 0, 1), NONE);
        due("sort 20", x.like(20, 0, 0, 1), NONE);
        due("land 6", x.like(0, 6, 0, 1), NONE);
        due("day -1", x.like(0, 0, -1, 1), NONE);
        due("tomorrow", x.like(0, 0, 1, 1), NONE);
        due("price 0", x.like(0, 0, 0, 0), NONE);
        due("price 100000", x.like(0, 0, 0, 100000), NONE);
        for (int i = 1; i <= 120; i++) {
            due("like", x.like(i % 20, i % 6, 0, i), i);
        }
        due("the 121st", x.like(0, 0, 0, 1), FULL);
        due("refused ahead of FULL", x.like(0, 0, 0, 0), NONE);
        due("count(6)", x.count(6), 120);
    }

    private static void p19Span() {
        ReelBack x = studio();
        x.days(300);
        draft(x, 0, 0, 0, 150, 0, 1);
        x.set(6, 4);
        x.cost(1, 50);
        due("no likes", x.span(0, 300, 0), NOT);
        due("no likes", x.span(0, 300, 1), NOT);
        due("no likes", x.span(0, 300, 2), NOT);
        due("how many", x.span(0, 300, 3), 0);
        x.like(4, 0, 60, 70);
        due("the one is least", x.span(0, 300, 0), 70);
        due("and greatest", x.span(0, 300, 1), 70);
        due("and middle", x.span(0, 300, 2), 70);
        x.like(4, 0, 240, 90);
        x.like(4, 0, 59, 1);
        x.like(4, 0, 241, 99999);
        x.like(4, 1, 150, 2);
        x.like(5, 0, 150, 3);
        due("90 days to both sides", x.span(0, 300, 3), 2);
        due("least", x.span(0, 300, 0), 70);
        due("greatest", x.span(0, 300, 1), 90);
        due("the lower middle", x.span(0, 300, 2), 70);
        x.days(1);
        x.like(4, 0, 150, 80);
        due("the middle of three", x.span(0, 301, 2), 80);
        due("as known ahead", x.span(0, 300, 2), 70);
        due("as known ahead of all", x.span(0, 299, 3), 0);
        x.like(4, 0, 150, 10);
        due("the lower middle of four", x.span(0, 301, 2), 70);
        due("least of four", x.span(0, 301, 0), 10);
        due("no cost", x.span(1, 300, 0), NONE);
        due("k", x.span(0, 3600, 0), NONE);
        due("k", x.span(0, -1, 3), NONE);
        due("what 4", x.span(0, 300, 4), NONE);
        due("what -1", x.span(0, 300, -1), NONE);
    }

    private static void p20Counted() {
        fair();
        doubles();
        countsOfACost();
    }

    private static void fair() {
        ReelBack x = studio();
        x.house(1);
        x.days(10);
        draft(x, 0, 0, 0, 10, 1, 1);
        x.cost(2, 500);
        draft(x, 0, 0, 0, 10, 1, 2);
        x.cost(1, 500);
        draft(x, 0, 0, 0, 10, 0, 3);
        x.cost(3, 500);
        x.relate(0, 1);
        x.like(7, 3, 10, 400);
        draft(x, 0, 0, 3, 10, 1, 4);
        x.set(6, 7);
        x.cost(2, 500);
        due("related, a like", x.counted(3, 10, 0), 400);
        due("related, no likes", x.counted(0, 10, 0), 0);
        due("a person's number is no house's", x.counted(1, 10, 0), 500);
        due("a house is not related to itself", x.counted(2, 10, 0), 500);
        x.like(0, 0, 10, 600);
        due("the lesser: coins", x.counted(0, 10, 0), 500);
        x.like(0, 0, 10, 400);
        due("the lesser: the middle one", x.counted(0, 10, 0), 400);
        x.sell(0, 2);
        due("the film is another house's", x.counted(0, 10, 0), 500);
        x.relate(2, 1);
        due("and that is related, too", x.counted(0, 10, 0), 400);
        due("no cost", x.counted(4, 10, 0), NONE);
        due("no cost", x.counted(-1, 10, 3), NONE);
        due("k", x.counted(0, 3600, 0), NONE);
        due("k", x.counted(0, -1, 0), NONE);
        due("what", x.counted(0, 10, 4), NONE);
        due("what", x.counted(0, 10, -1), NONE);
    }

    private static void doubles() {
        ReelBack x = studio();
        x.film(0, 1);
        draft(x, 0, 0, 0, 0, 0, 8);
        x.cost(1, 100);
        x.cost(1, 100);
        x.set(2, 1);
        x.cost(1, 100);
        x.set(0, 1);
        x.set(2, 0);
        x.cost(1, 100);
        due("a double of cost 0 alone", x.counted(2, 0, 1), 1);
        due("the first", x.counted(0, 0, 1), 0);
        due("the same film and land", x.counted(1, 0, 1), 0);
        due("another land", x.counted(2, 0, 1), 1);
        due("another film", x.counted(3, 0, 1), 1);
        due("the first counts", x.counted(0, 0, 2), 100);
        due("the later does not", x.counted(2, 0, 2), 0);
        due("nor has a line", x.counted(2, 0, 3), -1);
        make(x, 10, 0, "100");
        due("nor with COUNTS", x.counted(2, 0, 3), -1);
        due("nor by its land's neighbour", x.counted(2, 0, 2), 0);
        make(x, 14, 0, "0-7");
        due("DOUBLES not 0", x.counted(2, 0, 2), 100);
        due("its line", x.counted(2, 0, 3), 0);
        due("other land's DOUBLES", x.counted(3, 0, 2), 0);
        due("is a later double all the same", x.counted(2, 0, 1), 1);
    }

    private static void countsOfACost() {
        ReelBack x = studio();
        x.days(360);
        x.days(40);
        x.coin(0, 0, 1999);
        draft(x, 0, 1, 0, 380, 1, 1);
        x.set(6, 7);
        x.cost(1, 333);
        due("333 * 1.999 = 665.667", x.counted(0, 400, 2), 665);
        due("no act, no line", x.counted(0, 400, 3), -1);
        draft(x, 0, 1, 0, 380, 0, 7);
        x.cost(4, 100);
        make(x, 0, 0, "l*25");
        due("by line 0", x.counted(0, 400, 3), 0);
        due("lives in 1, not in 0", x.counted(0, 400, 2), 0);
        due("lives in 0", x.counted(1, 400, 2), 49);
        make(x, 0, 0, "k=2?1;s=7&e=1?50;99");
        due("665 / 2 = 332.5", x.counted(0, 400, 2), 332);
        due("by line 1", x.counted(0, 400, 3), 1);
        due("as known ahead", x.counted(0, 399, 2), 665);
        make(x, 0, 381, "1");
        due("an act for later days", x.counted(0, 400, 2), 332);
        make(x, 0, 380, "0?1;0?2");
        due("by none", x.counted(0, 400, 2), 0);
        due("no line", x.counted(0, 400, 3), -1);
        make(x, 0, 0, "l*10+r*5+y");
        due("y 1; lives in 1, not in 0", x.counted(0, 400, 2), 6);
        x.stay(1, 0, 0, 400);
        due("lives there: 11 of 100", x.counted(0, 400, 2), 73);
        make(x, 0, 0, "k*50+s*3+e");
        due("kind 1, sort 7, episode 1: 72 of 100", x.counted(0, 400, 2), 478);
        make(x, 0, 0, "0-5");
        due("held at 0", x.counted(0, 400, 2), 0);
        due("but by line 0", x.counted(0, 400, 3), 0);
        make(x, 0, 0, "500");
        due("held at 100", x.counted(0, 400, 2), 665);
        make(x, 0, 0, "c/10");
        due("c 333: 33 of 100", x.counted(0, 400, 2), 219);
        x.days(1);
        x.audit(0, 33);
        due("c 300: FAIR 300 is 599, 30 of 100", x.counted(0, 401, 2), 179);
        due("as before, as known ahead", x.counted(0, 400, 2), 219);
        draft(x, 0, 0, 1, 380, 1, 2);
        x.cost(3, 200);
        make(x, 10, 0, "l*7+r");
        due("a house of the land", x.counted(2, 401, 2), 14);
        x.relate(1, 0);
        x.like(7, 1, 380, 300);
        due("that is related, too", x.counted(2, 401, 2), 16);
        draft(x, 0, 0, 1, 380, 0, 3);
        x.cost(3, 200);
        due("a house of another land", x.counted(3, 401, 2), 0);
    }

    private static void p21Base() {
        ReelBack x = studio();
        x.film(0, 1);
        draft(x, 0, 0, 0, 0, 0, 1);
        x.cost(1, 1001);
        draft(x, 0, 1, 0, 0, 0, 2);
        x.cost(1, 200);
        draft(x, 0, 1, 1, 0, 0, 3);
        x.cost(1, 5000);
        draft(x, 1, 0, 0, 0, 0, 4);
        x.cost(1, 40000);
        due("all", x.base(0, 0, -1, 0, 0), 1201);
        due("episode 0", x.base(0, 0, 0, 0, 0), 1001);
        due("episode 1", x.base(0, 0, 1, 0, 0), 200);
        due("other land", x.base(0, 1, -1, 0, 0), 5000);
        due("no costs there", x.base(0, 2, -1, 0, 0), 0);
        due("due: 30 of 100, cut", x.base(0, 0, -1, 0, 1), 360);
        make(x, 3, 0, "359");
        due("due: the most", x.base(0, 0, -1, 0, 1), 359);
        make(x, 1, 0, "50");
        make(x, 3, 0, "9999*9999");
        due("due: another rate", x.base(0, 0, -1, 0, 1), 600);
        make(x, 2, 0, "4");
        due("points are missing", x.base(0, 0, -1, 0, 1), 0);
        x.point(0, 0, 4);
        x.prove(0);
        due("points are there", x.base(0, 0, -1, 0, 1), 600);
        make(x, 1, 5, "10");
        due("rate of day 4", x.base(0, 0, -1, 4, 1), 600);
        due("rate of day 5", x.base(0, 0, -1, 5, 1), 120);
        due("no film", x.base(2, 0, -1, 0, 0), NONE);
        due("land", x.base(0, 6, -1, 0, 0), NONE);
        due("episode -2", x.base(0, 0, -2, 0, 0), NONE);
        due("episode 2 of two", x.base(0, 0, 2, 0, 0), NONE);
        due("k", x.base(0, 0, -1, 3600, 0), NONE);
        due("what 2", x.base(0, 0, -1, 0, 2), NONE);
        due("what -1", x.base(0, 0, -1, 0, -1), NONE);
        due("due of an episode", x.base(0, 0, 0, 0, 1), NONE);
        // the greatest sum: 150 costs of 99999 coins of 99999 thousandths
        ReelBack y = studio();
        y.coin(0, 0, 99999);
        draft(y, 0, 0, 0, 0, 0, 1);
        for (int i = 0; i < 150; i++) {
            y.cost(1, 99999);
        }
        due("150 * 9999800", y.base(0, 0, -1, 0, 0), 1499970000);
        due("due: TOP", y.base(0, 0, -1, 0, 1), 99999999);
    }

    private static void p22Feed() {
        ReelBack x = new ReelBack();
        due("n 0", x.feed(0, 65), NONE);
        due("n 5", x.feed(5, 65), NONE);
        due("n -1", x.feed(-1, 65), NONE);
        due("one", x.feed(1, '7' | 0x7fffff00), 1);
        due("the lowest first", x.feed(3, '+' | '8' << 8 | ';' << 16 | 'x' << 24), 4);
        due("one more", x.feed(1, '1'), 5);
        due("a text of it", x.text(1, 0), 0);
        x.house(0);
        x.film(0, 1);
        due("7+8", x.law(0, 0, 0, 0, 1), 15);
        for (int i = 1; i <= 40; i++) {
            due("four", x.feed(4, -1), 4 * i);
        }
        due("the 161st", x.feed(1, 0), FULL);
        due("n ahead of FULL", x.feed(5, 0), NONE);
        due("count(8)", x.count(8), 160);
        due("a byte of 255", x.text(1, 0), -100);
        feed(x, "12345");
        for (int i = 0; i < 38; i++) {
            x.feed(4, '+' | '1' << 8 | '+' << 16 | '1' << 24);
        }
        due("157 and four", x.feed(4, 0), FULL);
        due("157 and three", x.feed(3, '+' | '4' << 8 | '0' << 16), 160);
        due("a text of 160 bytes", x.text(0, 0), 1);
    }

    private static void p23Text() {
        numbersOfTexts();
        faultsOfTexts();
        meaningsOfTexts();
    }

    private static void numbersOfTexts() {
        ReelBack x = new ReelBack();
        feed(x, "1");
        due("what -1", x.text(-1, 0), NONE);
        due("what 5", x.text(5, 0), NONE);
        due("what 55", x.text(55, 0), NONE);
        due("what 60", x.text(60, 0), NONE);
        due("from -1", x.text(0, -1), NONE);
        due("from 3600", x.text(0, 3600), NONE);
        due("the tape stays", x.count(8), 1);
        due("the first", x.text(54, 3599), 0);
        due("the tape is empty", x.count(8), 0);
        due("an empty tape", x.text(0, 0), -100);
        for (int i = 1; i < 20; i++) {
            due("text", make(x, i % 6 * 10 + i % 5, 0, "k"), i);
        }
        due("the 21st", make(x, 0, 0, "+"), FULL);
        due("the tape stays", x.count(8), 1);
        due("refused ahead of FULL", x.text(9, 0), NONE);
        due("count(7)", x.count(7), 20);
    }

    private static void fault(ReelBack x, String bytes, int place) {
        due("fault of " + bytes, make(x, 0, 0, bytes), -100 - place);
        due("the tape is empty", x.count(8), 0);
        due("no text", x.count(7), 0);
    }

    private static void faultsOfTexts() {
        ReelBack x = new ReelBack();
        fault(x, "+1", 0);
        fault(x, "-1", 0);
        fault(x, " 1", 0);
        fault(x, "1 ", 1);
        fault(x, "x", 0);
        fault(x, "kk", 1);
        fault(x, "1k", 1);
        fault(x, "1;", 2);
        fault(x, ";1", 0);
        fault(x, "1;;1", 2);
        fault(x, "1?", 2);
        fault(x, "1?2?3", 3);
        fault(x, "1<2<3", 3);
        fault(x, "1<2=3", 3);
        fault(x, "1=2>3", 3);
        fault(x, "1234567", 6);
        fault(x, "000000?0000001", 13);
        fault(x, "()", 1);
        fault(x, "(1", 2);
        fault(x, "(1;", 2);
        fault(x, "(1?2)", 2);
        fault(x, "1)", 1);
        fault(x, "1!", 1);
        fault(x, "!", 1);
        fault(x, "!+", 1);
        fault(x, "1&&1", 2);
        fault(x, "1|", 2);
        fault(x, "(((((((((1)))))))))", 8);
        fault(x, "!!!!!!!!!1", 8);
        fault(x, "!(!(!(!(!1", 8);
        fault(x, "!!!!((((!", 8);
        fault(x, "\u00e9", 0);
        due("eight open", make(x, 0, 0, "!(!(!(!(1))))"), 0);
        fault(new ReelBack(), "1?(((((((((1", 10);
        due("eight open behind ?", make(new ReelBack(), 0, 0, "1?((((((((1))))))))"), 0);
        due("eight open, again and again", make(x, 0, 0, "!!!!!!!!1+((((((((1))))))))+!!!!!!!!s"), 1);
        due("one comparison in each", make(x, 0, 0, "1<2&2=3|(1>2)>3"), 2);
        due("six digits", make(x, 0, 0, "999999*000000"), 3);
    }

    /** What a text of RATE says, plus 50: so that what is below 0 can be seen, too. */
    private static void worth(ReelBack x, String e, int want) {
        make(x, 1, 0, "(" + e + ")+50");
        due(e, x.law(0, 0, 0, 0, 1) - 50, want);
    }

    private static void meaningsOfTexts() {
        String[] texts = {"7-2-1", "2+3*4", "20/3", "(0-20)/3", "(0-20)%3", "20%3*2", "5/0", "5%0", "1<2", "2<2",
            "3>2", "2>2", "2=2", "1+1=2", "7&0", "7&3", "0|5", "0|0", "1|0&0", "!0", "!7", "!!7", "!0+1", "3&2=2",
            "1-1|1-1", "k", "s", "c", "l", "r", "e", "y", "p", "n", "j", "!k=1", "(2+3)*4", "24/2/3", "2-3+4"};
        int[] want = {4, 14, 6, -6, -2, 4, 0, 0, 1, 0,
            1, 0, 1, 1, 0, 1, 1, 0, 1, 1, 0, 1, 2, 1,
            0, 0, 0, 0, 0, 0, 0, 0, 6, 3, 2, 1, 20, 4, 3};
        ReelBack x = null;
        for (int i = 0; i < texts.length; i++) {
            if (i % 20 == 0) {
                x = new ReelBack();
                x.house(0);
                x.person(0);
                x.film(0, 3);
                x.point(0, 0, 6);
                x.prove(0);
                draft(x, 0, 2, 0, 0, 0, 1);
                x.cost(1, 5);
                x.set(2, 4);
                x.cost(1, 5);
            }
            worth(x, texts[i], want[i]);
        }
        ReelBack y = studio();
        make(y, 1, 0, "0?1;2-1?77;9");
        due("the second line", y.law(0, 0, 0, 0, 1), 77);
        make(y, 1, 0, "0?1;0?2;9;8");
        due("the third line", y.law(0, 0, 0, 0, 1), 9);
        make(y, 1, 0, "0?1");
        due("no line", y.law(0, 0, 0, 0, 1), 0);
        make(y, 1, 0, "999999*999999*999999%1000");
        due("ints that wrap", y.law(0, 0, 0, 0, 1), Math.max(0, Math.min(100, 999999 * 999999 * 999999 % 1000)));
        make(y, 1, 0, "999999*999999<0?61;62");
        due("ints that wrap", y.law(0, 0, 0, 0, 1), 999999 * 999999 < 0 ? 61 : 62);
        StringBuilder longest = new StringBuilder("!1");
        for (int i = 0; i < 79; i++) {
            longest.append("+1");
        }
        make(y, 1, 0, longest.toString());
        due("160 bytes of one sign each", y.law(0, 0, 0, 0, 1), 79);
        make(y, 1, 0, "1?0|5");
        due("all of E behind ?", y.law(0, 0, 0, 0, 1), 1);
        make(y, 1, 0, "0|5?7;9");
        due("all of E ahead of ?", y.law(0, 0, 0, 0, 1), 7);
        make(y, 1, 0, "y*10");
        due("year of day d", y.law(0, 0, 3599, 0, 1), 90);
    }

    private static void p24InForce() {
        ReelBack x = new ReelBack();
        due("none", x.inForce(12, 0, 0), NOT);
        make(x, 12, 10, "1");
        make(x, 12, 5, "2");
        x.days(3);
        make(x, 12, 20, "3");
        make(x, 13, 0, "4");
        due("for no day yet", x.inForce(12, 4, 3599), NOT);
        due("made last, for an earlier day", x.inForce(12, 10, 0), 1);
        due("from its day", x.inForce(12, 5, 0), 1);
        due("known from its making on", x.inForce(12, 20, 3), 2);
        due("not known ahead", x.inForce(12, 20, 2), 1);
        due("not for earlier days", x.inForce(12, 19, 3), 1);
        due("other use", x.inForce(13, 0, 3), 3);
        due("other use, not known", x.inForce(13, 0, 2), NOT);
        due("other land", x.inForce(2, 3599, 3599), NOT);
        due("what 5", x.inForce(5, 0, 0), NONE);
        due("what 60", x.inForce(60, 0, 0), NONE);
        due("what -1", x.inForce(-1, 0, 0), NONE);
        due("d", x.inForce(0, 3600, 0), NONE);
        due("k", x.inForce(0, 0, -1), NONE);
    }

    private static void p25Law() {
        ReelBack x = studio();
        due("rate at first", x.law(0, 0, 0, 0, 1), 30);
        due("need at first", x.law(0, 0, 0, 0, 2), 0);
        due("top at first", x.law(0, 0, 0, 0, 3), 99999999);
        x.days(2);
        make(x, 1, 4, "101");
        make(x, 2, 0, "999999*999");
        make(x, 3, 0, "0-1");
        due("rate is held", x.law(0, 0, 4, 2, 1), 100);
        due("not on that day", x.law(0, 0, 3, 2, 1), 30);
        due("not known", x.law(0, 0, 4, 1, 1), 30);
        due("need is held", x.law(0, 0, 0, 2, 2), 99999999);
        due("top is held", x.law(0, 0, 0, 2, 3), 0);
        make(x, 1, 0, "0-1");
        due("rate is held", x.law(0, 0, 4, 2, 1), 0);
        make(x, 1, 0, "p");
        x.point(0, 0, 9);
        x.prove(0);
        due("points known by k", x.law(0, 0, 0, 2, 1), 9);
        due("other land", x.law(1, 0, 0, 2, 1), 30);
        draft(x, 0, 1, 0, 0, 0, 1);
        x.set(6, 3);
        x.cost(1, 100);
        make(x, 0, 0, "k+s+c+l+r+e");
        due("names of COUNTS", x.base(0, 0, -1, 2, 0), 100);
        make(x, 1, 0, "k+s+c+l+r+e");
        due("are 0 in RATE", x.law(0, 0, 0, 2, 1), 0);
        due("land", x.law(6, 0, 0, 0, 1), NONE);
        due("film", x.law(0, 1, 0, 0, 1), NONE);
        due("d", x.law(0, 0, 3600, 0, 1), NONE);
        due("k", x.law(0, 0, 0, -1, 1), NONE);
        due("what 0", x.law(0, 0, 0, 0, 0), NONE);
        due("what 4", x.law(0, 0, 0, 0, 4), NONE);
    }

    private static void p26Cap() {
        ReelBack x = new ReelBack();
        due("at first", x.cap(5, 9, 0), 99999999);
        due("what it was", x.cap(5, 9, 99999999), 0);
        due("what it was", x.cap(5, 9, 1), 99999999);
        due("other year", x.cap(5, 8, 1), 99999999);
        due("other land", x.cap(4, 9, 1), 99999999);
        due("land", x.cap(6, 0, 1), NONE);
        due("land", x.cap(-1, 0, 1), NONE);
        due("year", x.cap(0, 10, 1), NONE);
        due("year", x.cap(0, -1, 1), NONE);
        due("v", x.cap(0, 0, -1), NONE);
        due("v", x.cap(0, 0, 100000000), NONE);
        due("not changed", x.cap(0, 0, 5), 99999999);
    }

    private static void p27Ask() {
        ReelBack x = studio();
        due("film", x.ask(1, 0), NONE);
        due("film", x.ask(-1, 0), NONE);
        due("land", x.ask(0, 6), NONE);
        due("the first", x.ask(0, 3), 0);
        due("again", x.ask(0, 3), STATE);
        due("another land", x.ask(0, 2), 1);
        for (int film = 1; film < 11; film++) {
            x.film(0, 1);
        }
        int n = 2;
        for (int film = 1; film < 11; film++) {
            for (int land = 0; land < 6 && n < 60; land++) {
                due("ask", x.ask(film, land), n);
                n++;
            }
        }
        due("again ahead of FULL", x.ask(0, 3), STATE);
        due("the 61st", x.ask(10, 5), FULL);
        due("count(9)", x.count(9), 60);
    }

    private static void p28Given() {
        ReelBack x = studio();
        int a = filmOf(x, 0, 1000);
        int b = filmOf(x, 0, 2000);
        int c = filmOf(x, 1, 9000);
        x.cap(0, 0, 100);
        x.cap(0, 1, 350);
        x.cap(0, 2, 10);
        x.ask(b, 0);
        x.ask(c, 1);
        due("as far as the cap goes", x.given(0, -1), 100);
        due("another land has its own", x.given(1, 0), 2700);
        due("a year to come", x.given(0, 1), NONE);
        x.days(360);
        x.ask(a, 0);
        due("what is left waits, ahead of later ones", x.given(0, 1), 350);
        due("in the first year", x.given(0, 0), 100);
        due("all", x.given(0, -1), 450);
        due("nothing is left of the cap", x.given(2, 1), 0);
        due("it asked later", x.given(2, 0), 0);
        x.cap(0, 1, 600);
        due("with another cap", x.given(0, 1), 500);
        due("the next gets the rest", x.given(2, 1), 100);
        x.days(360);
        due("the next year", x.given(2, 2), 10);
        due("all", x.given(2, -1), 110);
        due("the first has all", x.given(0, 2), 0);
        x.audit(1, 1000);
        due("the due as known today", x.given(0, -1), 300);
        due("so the next gets more", x.given(2, -1), 300);
        due("in year 1", x.given(2, 1), 300);
        due("no certificate", x.given(3, -1), NONE);
        due("no certificate", x.given(-1, -1), NONE);
        due("what -2", x.given(0, -2), NONE);
        due("what 3", x.given(0, 3), NONE);
    }

    private static void p29Foretold() {
        ReelBack x = studio();
        int a = filmOf(x, 0, 1000);
        int b = filmOf(x, 0, 1000);
        for (int year = 0; year < 10; year++) {
            x.cap(0, year, 100);
        }
        x.ask(a, 0);
        x.ask(b, 0);
        due("300 of 100 each", x.foretold(0), 2);
        due("behind it", x.foretold(1), 5);
        x.cap(0, 5, 99);
        due("one is missing", x.foretold(1), 6);
        for (int year = 4; year < 9; year++) {
            x.cap(0, year, 0);
        }
        due("to the last year", x.foretold(1), NOT);
        x.cap(0, 9, 199);
        due("one is missing in the last year", x.foretold(1), NOT);
        x.cap(0, 9, 200);
        due("in the last year", x.foretold(1), 9);
        due("the other not changed", x.foretold(0), 2);
        x.days(1);
        x.audit(0, 400);
        due("180 as known today", x.foretold(0), 1);
        x.days(359);
        int c = filmOf(x, 1, 1);
        x.ask(c, 1);
        due("nothing is due: the year of asking", x.foretold(2), 1);
        due("no certificate", x.foretold(3), NONE);
        due("no certificate", x.foretold(-1), NONE);
    }

    private static void p30Loan() {
        ReelBack x = studio();
        due("no certificate", x.loan(0, 0, 1, 0), NONE);
        x.ask(0, 0);
        x.ask(0, 1);
        due("lender", x.loan(0, -1, 1, 0), NONE);
        due("lender", x.loan(0, 20, 1, 0), NONE);
        due("coins", x.loan(0, 0, 0, 0), NONE);
        due("coins", x.loan(0, 0, 100000000, 0), NONE);
        due("rank", x.loan(0, 0, 1, -1), NONE);
        due("rank", x.loan(0, 0, 1, 3), NONE);
        due("the first", x.loan(0, 19, 99999999, 2), 0);
        x.settle(1);
        due("it is settled", x.loan(1, 0, 1, 0), STATE);
        for (int i = 1; i < 60; i++) {
            due("loan", x.loan(0, i % 20, i, i % 3), i);
        }
        due("the 61st", x.loan(0, 0, 1, 0), FULL);
        due("settled ahead of FULL", x.loan(1, 0, 1, 0), STATE);
        due("count(10)", x.count(10), 60);
    }

    private static void p31Advance() {
        ReelBack x = studio();
        int a = filmOf(x, 0, 1010);
        int b = filmOf(x, 0, 10);
        x.ask(a, 0);
        x.ask(b, 0);
        x.cap(0, 0, 0);
        due("half of the due 303, whatever is given", x.advance(0), 151);
        due("again", x.advance(0), STATE);
        due("the house got it", x.got(0), 151);
        x.settle(1);
        due("it is settled", x.advance(1), STATE);
        due("no certificate", x.advance(2), NONE);
        due("no certificate", x.advance(-1), NONE);
        ReelBack w = studio();
        w.ask(filmOf(w, 0, 1000), 0);
        w.days(359);
        w.audit(0, 500);
        due("as known today", w.advance(0), 75);
        ReelBack y = studio();
        y.ask(0, 0);
        due("nothing is due", y.advance(0), 0);
        due("but there was one", y.advance(0), STATE);
        due("given back: nothing", y.settle(0), 0);
    }

    private static void p32Settle() {
        ReelBack x = studio();
        int a = filmOf(x, 0, 1010);
        int b = filmOf(x, 1, 1000);
        x.ask(a, 0);
        x.ask(b, 1);
        x.cap(1, 0, 40);
        x.advance(0);
        x.advance(1);
        due("303 less 151", x.settle(0), 152);
        due("again", x.settle(0), STATE);
        due("40 less 150: given back", x.settle(1), -110);
        due("the house got 303 and 150", x.got(0), 453);
        due("no certificate", x.settle(2), NONE);
        due("no certificate", x.settle(-1), NONE);
        ReelBack y = studio();
        int c = filmOf(y, 0, 100);
        y.ask(c, 0);
        int d = filmOf(y, 1, 5);
        y.ask(d, 1);
        y.days(5);
        y.cap(0, 0, 20);
        y.audit(0, 10);
        y.days(360);
        due("27 as known today, of two years", y.settle(0), 27);
        due("then none", y.advance(0), STATE);
        due("a single coin", y.settle(1), 1);
        due("is paid", y.got(0), 28);
    }

    private static void p33Repaid() {
        ReelBack x = studio();
        int a = filmOf(x, 0, 1000);
        x.ask(a, 0);
        x.loan(0, 0, 100, 2);
        x.loan(0, 1, 30, 1);
        x.loan(0, 2, 50, 0);
        x.loan(0, 3, 100, 1);
        x.loan(0, 3, 100, 1);
        due("left at first", x.repaid(0, 1), 100);
        // 150: rank 0 takes 50; 100 for 230: 13.04, 43.48, 43.48: the rest goes to the earlier of like ones
        due("advance", x.advance(0), 150);
        due("rank 0 whole", x.repaid(2, 0), 50);
        due("13 of 30", x.repaid(1, 0), 13);
        due("44 of 100", x.repaid(3, 0), 44);
        due("43 of 100", x.repaid(4, 0), 43);
        due("left of it", x.repaid(4, 1), 57);
        due("rank 2 nothing", x.repaid(0, 0), 0);
        due("nor the house", x.got(0), 0);
        due("count(13)", x.count(13), 150);
        // 150: 130 of rank 1, 20 of rank 2
        due("settle", x.settle(0), 150);
        due("rank 1 whole", x.repaid(1, 0), 30);
        due("rank 1 whole", x.repaid(3, 1), 0);
        due("rank 2 in part", x.repaid(0, 0), 20);
        due("left of it", x.repaid(0, 1), 80);
        due("the house nothing", x.got(0), 0);
        leftOfMany();
        singleCoins();
        due("loan 5", x.repaid(5, 0), NONE);
        due("loan -1", x.repaid(-1, 0), NONE);
        due("what 2", x.repaid(0, 2), NONE);
        due("what -1", x.repaid(0, -1), NONE);
    }

    private static void singleCoins() {
        ReelBack x = studio();
        int a = filmOf(x, 0, 10);
        int b = filmOf(x, 0, 10);
        x.ask(a, 0);
        x.ask(b, 0);
        x.loan(0, 0, 1, 0);
        x.loan(1, 0, 1, 0);
        x.loan(1, 0, 1, 0);
        x.loan(0, 0, 2, 0);
        due("one coin", x.advance(1), 1);
        due("not of this certificate", x.repaid(0, 0), 0);
        due("the earlier", x.repaid(1, 0), 1);
        due("the later", x.repaid(2, 0), 0);
        due("the house", x.got(0), 0);
        // 1 for 1 and 2: rests 1 and 2 of 3
        due("one coin", x.advance(0), 1);
        due("the lesser rest", x.repaid(0, 0), 0);
        due("the greater rest", x.repaid(3, 0), 1);
        due("two coins", x.settle(1), 2);
        due("what is left of the loans", x.repaid(2, 0), 1);
        due("the house", x.got(0), 1);
        due("two coins", x.settle(0), 2);
        due("whole", x.repaid(0, 0), 1);
        due("whole", x.repaid(3, 1), 0);
    }

    private static void leftOfMany() {
        ReelBack x = studio();
        int a = filmOf(x, 0, 1000);
        int b = filmOf(x, 0, 200);
        x.ask(a, 0);
        x.ask(b, 0);
        x.loan(1, 0, 9, 0);
        x.loan(0, 0, 7, 1);
        x.loan(0, 0, 7, 1);
        x.loan(0, 0, 7, 1);
        x.loan(1, 0, 11, 0);
        x.loan(1, 0, 99999999, 0);
        x.loan(0, 0, 160, 0);
        // 30 for 100000019: all rests but the last's are 30 times what is owed
        due("advance", x.advance(1), 30);
        due("9: nothing", x.repaid(0, 0), 0);
        due("11: nothing", x.repaid(4, 0), 0);
        due("99999999: 29 and the rest", x.repaid(5, 0), 30);
        due("of another certificate", x.repaid(1, 0), 0);
        due("advance", x.advance(0), 150);
        due("150 of 160", x.repaid(6, 0), 150);
        // 150: 10 for rank 0, 21 for rank 1, 119 for the house
        due("settle", x.settle(0), 150);
        due("whole", x.repaid(6, 1), 0);
        due("whole", x.repaid(2, 1), 0);
        due("the house", x.got(0), 119);
        ReelBack y = studio();
        int c = filmOf(y, 0, 200);
        y.ask(c, 0);
        y.loan(0, 0, 16, 1);
        y.loan(0, 0, 16, 1);
        y.loan(0, 0, 16, 1);
        // 30 of 48: 10 each; then 30 of 18
        y.advance(0);
        due("10 each", y.repaid(2, 0), 10);
        y.loan(0, 0, 14, 1);
        y.audit(0, 37);
        // due 163 * 30 / 100 = 48, less 30: 18 for 6, 6, 6, 14 of 32: 3.375 each and 7.875
        due("settle", y.settle(0), 18);
        due("the greatest rest", y.repaid(3, 0), 8);
        due("of like ones the earlier", y.repaid(0, 0), 14);
        due("not the later", y.repaid(1, 0), 13);
        due("not the later", y.repaid(2, 0), 13);
    }

    private static void p34Got() {
        ReelBack x = studio();
        due("at first", x.got(0), 0);
        due("no house", x.got(2), NONE);
        due("no house", x.got(-1), NONE);
        int a = filmOf(x, 0, 1000);
        x.ask(a, 0);
        x.loan(0, 0, 100, 0);
        x.advance(0);
        due("150 less the loan", x.got(0), 50);
        due("not the other", x.got(1), 0);
        x.sell(a, 1);
        x.settle(0);
        int b = x.film(1, 1);
        draft(x, b, 0, 0, 0, 0, 2);
        x.cost(1, 20);
        x.ask(b, 0);
        due("of a film of house 1", x.advance(1), 3);
        due("got by house 1", x.got(1), 153);
        due("what it got stays", x.got(0), 50);
        due("the rest is the other's", x.got(1), 153);
        due("all houses", x.count(12), 203);
    }

    private static void p35Move() {
        ReelBack x = new ReelBack();
        due("coins 0", x.move(0, 1), NONE);
        due("coins 10000", x.move(10000, 1), NONE);
        due("lands 0", x.move(1, 0), NONE);
        due("lands 64", x.move(1, 64), NONE);
        due("lands -1", x.move(1, -1), NONE);
        for (int i = 1; i <= 9; i++) {
            due("move", x.move(9999, 63), i);
        }
        due("the tenth", x.move(1, 1), FULL);
        due("refused ahead of FULL", x.move(1, 64), NONE);
    }

    private static void p36Split() {
        ReelBack x = studio();
        make(x, 1, 0, "10");
        make(x, 11, 0, "20");
        make(x, 21, 0, "20");
        due("empty", x.split(0, 3, 0), STATE);
        x.move(100, 3);
        x.move(50, 7);
        due("no film", x.split(1, 3, 0), NONE);
        due("one land", x.split(0, 4, 0), NONE);
        due("four lands", x.split(0, 15, 0), NONE);
        due("no land", x.split(0, 0, 0), NONE);
        due("lands 64", x.split(0, 65, 0), NONE);
        due("least 51", x.split(0, 3, 51), NONE);
        due("least -1", x.split(0, 3, -1), NONE);
        due("no way: 50 of 100 each", x.split(0, 3, 50), NOT);
        due("no land in the treaty", x.split(0, 48, 0), NOT);
        due("100 in land 1, 50 in land 0", x.split(0, 3, 33), 25);
        due("empty then", x.split(0, 3, 33), STATE);
        x.move(100, 3);
        x.move(50, 7);
        due("all in the dearest", x.split(0, 7, 0), 30);
        due("room again", x.move(1, 1), 1);
        // cut for each land: 99 at 10, 99 at 20
        x.move(98, 2);
        due("0 and 19", x.split(0, 3, 0), 19);
        x.move(100, 3);
        x.move(100, 3);
        due("just 50 of 100 each", x.split(0, 3, 50), 30);
        make(x, 1, 10, "90");
        x.move(100, 3);
        due("the rate of today", x.split(0, 3, 0), 20);
        x.days(10);
        x.move(100, 3);
        due("the rate of day 10", x.split(0, 3, 0), 90);
        make(x, 1, 10, "p*11");
        x.point(0, 0, 5);
        x.prove(0);
        x.move(100, 3);
        due("the rate of the film", x.split(0, 3, 0), 55);
    }

    private static void p37Moved() {
        ReelBack x = studio();
        due("before any", x.moved(0), NONE);
        x.move(100, 7);
        x.move(100, 7);
        x.move(100, 6);
        due("all rates are like", x.split(0, 7, 20), 90);
        due("the first way", x.moved(0), 0);
        due("the first way", x.moved(1), 1);
        due("the first way", x.moved(2), 2);
        due("i 3", x.moved(3), NONE);
        due("i -1", x.moved(-1), NONE);
        x.move(1, 8);
        x.split(0, 7, 0);
        due("that one found none", x.moved(2), 2);
        x.move(1, 8);
        x.split(0, 40, 50);
        due("that one found none", x.moved(0), 0);
        x.split(0, 10, 0);
        due("the only land of both", x.moved(0), 3);
        x.move(1, 8);
        x.move(1, 8);
        due("one with a way", x.split(0, 9, 0), 0);
        due("of two costs", x.moved(1), 3);
        due("of two costs", x.moved(2), NONE);
    }

    private static void p38Without() {
        ReelBack x = studio();
        due("before any", x.without(), NONE);
        make(x, 1, 0, "10");
        make(x, 11, 0, "25");
        x.move(100, 3);
        x.move(60, 3);
        x.split(0, 48, 0);
        due("no way is none", x.without(), NONE);
        due("60 at 10, 100 at 25", x.split(0, 3, 30), 31);
        due("160 at 25 is 40", x.without(), 9);
        x.move(100, 1);
        due("no choice", x.split(0, 3, 0), 10);
        due("costs nothing", x.without(), 0);
    }

    private static void p39Gain() {
        ReelBack x = studio();
        x.days(360);
        x.days(40);
        make(x, 1, 360, "20");
        draft(x, 0, 0, 0, 359, 0, 1);
        x.cost(1, 7000);
        draft(x, 0, 0, 0, 360, 0, 2);
        x.cost(1, 1001);
        x.film(0, 1);
        draft(x, 1, 0, 0, 400, 0, 3);
        x.cost(1, 103);
        draft(x, 1, 0, 1, 400, 0, 4);
        x.cost(1, 50000);
        // 1104: * 55 / 100 = 607, * 33 / 100 = 200; less 200 and 20
        due("at least", x.gain(0, 1, 55099, 33, 0), 200 - 220);
        // 1104 * 99 / 100 = 1092, * 33 / 100 = 360
        due("at most", x.gain(0, 1, 55099, 33, 1), 360 - 220);
        due("the rate of the last day of year 0 is 30", x.gain(0, 0, 100100, 100, 0), 7000 - 2100);
        due("other land", x.gain(1, 1, 0, 0, 0), -15000);
        make(x, 1, 719, "10");
        due("the rate of the last day", x.gain(0, 1, 0, 0, 0), -110);
        make(x, 1, 720, "1");
        due("not of the day behind it", x.gain(0, 1, 0, 0, 0), -110);
        due("no costs", x.gain(0, 9, 50100, 100, 1), 0);
        due("a above b: at least is by a", x.gain(0, 1, 99055, 33, 0), 360 - 110);
        due("a above b: at most is by b", x.gain(0, 1, 99055, 33, 1), 200 - 110);
        due("a 100, b 0", x.gain(0, 9, 100000, 100, 0), 0);
        due("a 1, b 0, nothing there", new ReelBack().gain(5, 9, 1000, 100, 1), 0);
        due("land", x.gain(6, 0, 0, 0, 0), NO_VALUE);
        due("year", x.gain(0, 10, 0, 0, 0), NO_VALUE);
        due("year", x.gain(0, -1, 0, 0, 0), NO_VALUE);
        due("a", x.gain(0, 0, 101000, 0, 0), NO_VALUE);
        due("b", x.gain(0, 0, 101, 0, 0), NO_VALUE);
        due("b above 100", x.gain(0, 0, 100101, 0, 0), NO_VALUE);
        due("b 999", x.gain(0, 0, 999, 0, 0), NO_VALUE);
        due("ab", x.gain(0, 0, -1, 0, 0), NO_VALUE);
        due("ab, far below 0", x.gain(0, 0, -5000, 0, 0), NO_VALUE);
        due("tax", x.gain(0, 0, 0, 101, 0), NO_VALUE);
        due("tax", x.gain(0, 0, 0, -1, 0), NO_VALUE);
        due("what", x.gain(0, 0, 0, 0, 2), NO_VALUE);
    }

    private static void p40Audit() {
        ReelBack x = studio();
        draft(x, 0, 0, 0, 0, 0, 1);
        x.cost(1, 100);
        x.cost(1, 1);
        ReelBack y = studio();
        draft(y, 0, 0, 0, 0, 0, 1);
        y.cost(1, 100);
        due("on day 0", y.audit(0, 40), 1);
        due("it was", y.audit(0, 30), STATE);
        due("coins", y.of(0, 4), 60);
        due("no cost", x.audit(2, 0), NONE);
        due("no cost", x.audit(-1, 0), NONE);
        due("coins -1", x.audit(0, -1), NONE);
        due("all coins", x.audit(0, 100), NONE);
        due("one coin has none too much", x.audit(1, 1), NONE);
        x.days(5);
        due("wrong", x.audit(0, 99), 1);
        due("it was", x.audit(0, 0), STATE);
        due("coins ahead of that", x.audit(0, 100), NONE);
        due("right", x.audit(1, 0), 2);
        due("known from today on", x.counted(0, 5, 0), 1);
        due("ahead as before", x.counted(0, 4, 0), 100);
        due("base", x.base(0, 0, -1, 5, 0), 2);
        due("base as known ahead", x.base(0, 0, -1, 4, 0), 101);
        due("count(11)", x.count(11), 2);
    }

    private static void p41Lots() {
        ReelBack x = studio();
        draft(x, 0, 0, 0, 0, 0, 1);
        for (int i = 0; i < 13; i++) {
            x.cost(1, 10);
        }
        int[] seeds = {0, 1, -1, 12345, Integer.MIN_VALUE, Integer.MAX_VALUE};
        for (int i = 0; i < seeds.length; i++) {
            due("lots", x.lots(seeds[i]), 1);
            int z = seeds[i];
            for (int n = 0; n < 4; n++) {
                z = z * 1103515245 + 12345;
                due("draw", x.draw(0), (z >>> 8) % 13);
            }
        }
    }

    private static void p42Draw() {
        ReelBack x = studio();
        due("no film", x.draw(1), NONE);
        due("no film", x.draw(-1), NONE);
        due("no cost", x.draw(0), NOT);
        x.film(0, 1);
        draft(x, 1, 0, 0, 0, 0, 1);
        x.cost(1, 10);
        draft(x, 0, 0, 0, 0, 0, 1);
        x.cost(1, 10);
        x.cost(1, 10);
        x.cost(1, 10);
        // z stayed 1: 4310654 % 3 is 2; the costs of film 0 are 1, 2, 3
        due("the third", x.draw(0), 3);
        x.audit(2, 0);
        int z = 1103527590 * 1103515245 + 12345;
        due("of 1 and 3", x.draw(0), (z >>> 8) % 2 == 0 ? 1 : 3);
        x.audit(1, 0);
        due("the one that is left", x.draw(0), 3);
        due("the other film's", x.draw(1), 0);
        x.audit(3, 0);
        due("all are audited", x.draw(0), NOT);
        x.audit(0, 0);
        due("all are audited", x.draw(1), NOT);
    }

    private static void p43Bound() {
        ReelBack x = studio();
        due("no film", x.bound(1), NONE);
        due("no film", x.bound(-1), NONE);
        due("no costs", x.bound(0), 0);
        draft(x, 0, 0, 0, 0, 0, 1);
        for (int i = 0; i < 20; i++) {
            x.cost(1, 10);
        }
        due("none audited", x.bound(0), 20);
        x.audit(0, 0);
        due("one of 20 right: W of 19 has 5 of 100", x.bound(0), 19);
        x.audit(1, 0);
        // (20-W)(19-W) / 380 >= 0.05: W 15 has 20/380, W 16 has 12/380
        due("two of 20 right", x.bound(0), 15);
        x.audit(2, 1);
        // three drawn, one wrong: W 17 has 3*17/1140 = 0.045, W 16 has (4 + 16*6)/1140 = 0.088
        due("three of 20, one wrong", x.bound(0), 16);
        x.audit(3, 0);
        // four drawn, one wrong, of 4845: W 14 has 15 + 14*20 = 295, W 15 has 5 + 15*10 = 155
        due("four of 20, one wrong", x.bound(0), 14);
        for (int i = 20; i < 30; i++) {
            x.cost(1, 10);
        }
        for (int i = 4; i < 30; i++) {
            x.audit(i, 1);
        }
        due("all audited: 27 wrong", x.bound(0), 27);
        x.cost(1, 10);
        due("31 costs", x.bound(0), BIG);
        x.film(0, 1);
        due("another film", x.bound(1), 0);
    }

    private static void p44TryText() {
        ReelBack x = studio();
        int a = filmOf(x, 0, 1000);
        int b = filmOf(x, 0, 500);
        filmOf(x, 1, 7000);
        due("no text", x.tryText(0), NONE);
        make(x, 1, 3000, "n*10");
        make(x, 0, 3000, "50");
        make(x, 2, 0, "0");
        due("another rate", x.tryText(0), 150);
        due("another counting", x.tryText(1), 225);
        due("need", x.tryText(2), NONE);
        due("no text", x.tryText(3), NONE);
        due("no text", x.tryText(-1), NONE);
        due("nothing is changed", x.base(a, 0, -1, 0, 1), 300);
        due("nothing is changed", x.base(b, 0, -1, 0, 1), 150);
        due("nothing is in force", x.inForce(1, 2999, 0), NOT);
        make(x, 1, 0, "20");
        due("in place of that in force", x.tryText(0), 150);
        due("with the rate in force", x.tryText(1), 150);
        make(x, 11, 0, "1");
        due("its own land", x.tryText(4), 70);
        make(x, 3, 0, "60");
        due("the most of each", x.tryText(0), 110);
        make(x, 4, 0, "1");
        due("doubles", x.tryText(6), NONE);
        x.days(9);
        x.audit(1, 200);
        due("as known today", x.tryText(0), 90);
        // twenty films of the most that one can get: 20 * 99999999 = 1999999980
        ReelBack y = studio();
        y.coin(0, 0, 99999);
        draft(y, 0, 0, 0, 0, 0, 1);
        for (int i = 0; i < 11; i++) {
            y.cost(1, 99999);
        }
        make(y, 1, 0, "100");
        due("of one", y.tryText(0), 99999999);
    }

    private static void p45Twice() {
        ReelBack x = studio();
        x.film(0, 1);
        for (int what = 0; what <= 2; what++) {
            due("none", x.twice(what), NOT);
        }
        draft(x, 0, 0, 0, 0, 0, 5);
        x.cost(1, 1);
        x.cost(1, 1);
        due("the same film and land", x.twice(0), NOT);
        x.set(5, 6);
        x.set(0, 1);
        x.cost(1, 1);
        due("another receipt", x.twice(1), NOT);
        x.set(5, 5);
        x.cost(1, 1);
        due("0 and 3, 1 and 3", x.twice(0), 2);
        due("the first", x.twice(1), 0);
        due("the second", x.twice(2), 3);
        x.set(2, 4);
        x.cost(1, 1);
        due("and 0, 1, 3 with 4", x.twice(0), 5);
        x.set(5, 6);
        x.cost(1, 1);
        due("and 2 with 5", x.twice(0), 6);
        due("what 3", x.twice(3), NONE);
        due("what -1", x.twice(-1), NONE);
    }

    private static ReelBack oneOfEachKind() {
        ReelBack x = studio();
        draft(x, 0, 0, 0, 0, 0, 1);
        for (int kind = 1; kind <= 6; kind++) {
            x.cost(kind, 100 * kind);
        }
        return x;
    }

    private static void p46Act() {
        ReelBack x = oneOfEachKind();
        // numbers 0 .. 5 have kinds 1 .. 6 and 100 .. 600 coins; x is 7
        due("wage spends", x.act(0, 0, 7), 107);
        due("wage counts", x.act(0, 1, 7), 214 ^ 9);
        due("bits that are there go", x.act(0, 1, 4), 208 + 9);
        due("bits that are there go", x.act(0, 1, 8), 216 - 8 + 1);
        due("wage proves", x.act(0, 2, 7), 214 ^ 9);
        due("goods spends", x.act(1, 0, 7), 203);
        due("goods counts", x.act(1, 1, 7), 406);
        due("goods proves", x.act(1, 2, 7), 405);
        due("rent spends", x.act(2, 0, 7), 303);
        due("rent counts", x.act(2, 1, 7), 606);
        due("rent proves: 604 and counts(1) 594", x.act(2, 2, 7), 604 + 594);
        due("fee spends", x.act(3, 0, 7), 407);
        due("fee counts", x.act(3, 1, 7), -814);
        due("fee proves", x.act(3, 2, 7), -817);
        due("lot spends", x.act(4, 0, 7), 504);
        due("lot counts", x.act(4, 1, 7), 1008);
        due("lot proves", x.act(4, 2, 7), (1008 - 4) * 3);
        due("carriage spends", x.act(5, 0, 7), 607);
        due("carriage counts: -1214 and spends(2) 602", x.act(5, 1, 7), -1214 - 602);
        due("carriage proves", x.act(5, 2, 7), -1214 - 602 - 5);
        due("wrapping", x.act(0, 0, Integer.MAX_VALUE), Integer.MAX_VALUE + 100);
        due("no cost", x.act(6, 0, 0), NO_VALUE);
        due("no cost", x.act(-1, 0, 0), NO_VALUE);
        due("act 3", x.act(0, 3, 0), NO_VALUE);
        due("act -1", x.act(0, -1, 0), NO_VALUE);
        x.days(3);
        x.audit(0, 60);
        due("coins as known today", x.act(0, 0, 7), 47);
    }

    private static void traced(ReelBack x, String what, int... bodies) {
        for (int i = 0; i < bodies.length; i++) {
            due(what + " " + i, x.trace(i), bodies[i]);
        }
        due(what + " is at its end", x.trace(bodies.length), NONE);
    }

    private static void p47Trace() {
        ReelBack x = oneOfEachKind();
        due("before any", x.trace(0), NONE);
        x.act(2, 2, 7);
        traced(x, "rent proves", 40, 12, 11, 30, 10, 11, 30, 10);
        due("i -1", x.trace(-1), NONE);
        x.act(0, 3, 7);
        x.act(6, 0, 7);
        traced(x, "what is refused leaves it", 40, 12, 11, 30, 10, 11, 30, 10);
        x.act(4, 2, 7);
        traced(x, "lot proves", 61, 12, 11, 60, 30, 10);
        x.act(5, 2, 7);
        traced(x, "carriage proves", 12, 70, 50, 11, 10, 10);
        x.act(0, 2, 7);
        traced(x, "wage proves", 12, 20, 11, 10);
        x.act(3, 0, 7);
        traced(x, "fee spends", 10);
        due("MAX", x.trace(Integer.MAX_VALUE), NONE);
    }

    private static void p48Taken() {
        ReelBack x = oneOfEachKind();
        String[] takers = {"", "01", "02", "023", "04", "025", "046"};
        for (int kind = 1; kind <= 6; kind++) {
            for (int k = 0; k <= 6; k++) {
                boolean under = takers[kind].indexOf('0' + k) >= 0;
                due(kind + " taken for " + k, x.taken(kind - 1, k), under ? kind : CAST);
            }
        }
        due("k -1", x.taken(0, -1), NONE);
        due("k 7", x.taken(0, 7), NONE);
        due("no cost", x.taken(6, 0), NONE);
        due("no cost", x.taken(-1, 0), NONE);
    }

    private static void p49Count() {
        ReelBack x = oneOfEachKind();
        x.days(2);
        x.stay(0, 0, 0, 1);
        x.like(0, 0, 0, 1);
        x.like(0, 0, 0, 1);
        make(x, 0, 0, "100");
        feed(x, "12345");
        x.ask(0, 0);
        x.loan(0, 0, 50, 0);
        x.loan(0, 0, 5, 0);
        x.audit(0, 0);
        x.advance(0);
        // base 2100, due 630, advance 315: 55 for loans
        int[] want = {2, 1, 2, 2, 6, 1, 2, 1, 5, 1, 2, 1, 260, 55};
        for (int what = 0; what <= 13; what++) {
            due("count(" + what + ")", x.count(what), want[what]);
        }
        due("what -1", x.count(-1), NONE);
        due("what 14", x.count(14), NONE);
    }

    private static void constants() {
        due("NONE", ReelBack.NONE, NONE);
        due("FULL", ReelBack.FULL, FULL);
        due("STATE", ReelBack.STATE, STATE);
        due("NOT", ReelBack.NOT, NOT);
        due("BIG", ReelBack.BIG, BIG);
        due("CAST", ReelBack.CAST, CAST);
        due("NO_VALUE", ReelBack.NO_VALUE, NO_VALUE);
    }

    private static final Runnable[] PROMISES = {
        PromiseTest::p01NewObject, PromiseTest::p02Days, PromiseTest::p03Coin, PromiseTest::p04CoinOn,
        PromiseTest::p05House, PromiseTest::p06Relate, PromiseTest::p07Film, PromiseTest::p08Sell,
        PromiseTest::p09Person, PromiseTest::p10Stay, PromiseTest::p11Lives, PromiseTest::p12Point,
        PromiseTest::p13Prove, PromiseTest::p14Points, PromiseTest::p15Set, PromiseTest::p16Cost,
        PromiseTest::p17Of, PromiseTest::p18Like, PromiseTest::p19Span, PromiseTest::p20Counted,
        PromiseTest::p21Base, PromiseTest::p22Feed, PromiseTest::p23Text, PromiseTest::p24InForce,
        PromiseTest::p25Law, PromiseTest::p26Cap, PromiseTest::p27Ask, PromiseTest::p28Given,
        PromiseTest::p29Foretold, PromiseTest::p30Loan, PromiseTest::p31Advance, PromiseTest::p32Settle,
        PromiseTest::p33Repaid, PromiseTest::p34Got, PromiseTest::p35Move, PromiseTest::p36Split,
        PromiseTest::p37Moved, PromiseTest::p38Without, PromiseTest::p39Gain, PromiseTest::p40Audit,
        PromiseTest::p41Lots, PromiseTest::p42Draw, PromiseTest::p43Bound, PromiseTest::p44TryText,
        PromiseTest::p45Twice, PromiseTest::p46Act, PromiseTest::p47Trace, PromiseTest::p48Taken,
        PromiseTest::p49Count};

    public static void main(String[] args) {
        constants();
        int passed = 0;
        for (promise = 1; promise <= PROMISES.length; promise++) {
            int before = wrong;
            PROMISES[promise - 1].run();
            passed += wrong == before ? 1 : 0;
        }
        System.out.println(asked + " answers asked of " + PROMISES.length + " promises, " + passed + " promises held, "
            + wrong + " answers not as due");
        if (wrong != 0) {
            System.exit(1);
        }
    }
}
