/** Terms 1, promises 1 to 14: days, coins, houses, persons. */
final class DayEdges extends Edges {
    static void all() {
        chapter("Terms 1");
        termsOfDays();
        termsOfLands();
        termsOfHouses();
        termsOfStays();
        termsOfLiving();
        termsOfPoints();
        newObject();
        days();
        coins();
        houses();
        films();
        persons();
        points();
    }

    // ---- terms

    private static void termsOfDays() {
        edge("DAY is a count, 0 at first, at most 3599", () -> {
            ReelBack x = new ReelBack();
            due("at first", x.count(3), 0);
            years(x, 9);
            due("to the last", x.days(359), 3599);
            due("one more", x.days(1), NONE);
            due("stays", x.count(3), 3599);
        });
        edge("a YEAR has 360 (0 .. 9)", () -> {
            ReelBack x = studio();
            make(x, 3, 0, "y");
            int[] days = {0, 359, 360, 719, 720, 3239, 3240, 3599};
            int[] want = {0, 0, 1, 1, 2, 8, 9, 9};
            for (int i = 0; i < days.length; i++) {
                due("YEAR of " + days[i], x.law(0, 0, days[i], 0, 3), want[i]);
            }
            due("YEAR 9", x.cap(0, 9, 1), 99999999);
            due("YEAR 10", x.cap(0, 10, 1), NONE);
            due("YEAR -1", x.cap(0, -1, 1), NONE);
        });
    }

    private static void termsOfLands() {
        edge("LANDS 0 .. 5", () -> {
            ReelBack x = new ReelBack();
            for (int land = 0; land <= 5; land++) {
                due("house", x.house(land), land);
                due("person", x.person(land), land);
                due("film", x.film(land, 1), land);
                noLandIsMissing(x, land);
            }
            noLandIsThere(x, -1);
            noLandIsThere(x, 6);
            noLandIsThere(x, MIN);
            noLandIsThere(x, MAX);
        });
        edge("COIN of a LAND on a DAY: so many thousandths (1 .. 99999; 1000 at first)", () -> {
            ReelBack x = studio();
            wage(x, 0, 0, 999);
            wage(x, 0, 0, 1000);
            due("at first", x.counted(0, 0, 2), 999);
            due("0", x.coin(0, 0, 0), NONE);
            due("100000", x.coin(0, 0, 100000), NONE);
            due("1", x.coin(0, 0, 1), 1);
            due("999 of a thousandth", x.counted(0, 0, 2), 0);
            due("1000 of a thousandth", x.counted(1, 0, 2), 1);
            due("99999", x.coin(0, 0, 99999), 2);
            due("999 * 99.999 = 99899.001", x.counted(0, 0, 2), 99899);
        });
        edge("told for DAYS from one on (at most 20 of each LAND)", () -> {
            ReelBack x = new ReelBack();
            for (int i = 1; i <= 20; i++) {
                due("coin", x.coin(3, i, 2000 + i), i);
            }
            due("the 21st", x.coin(3, 0, 7), FULL);
            due("not ahead of the first", x.coinOn(3, 0), 1000);
            due("from the first on", x.coinOn(3, 1), 2001);
            due("from the last on", x.coinOn(3, 3599), 2020);
            due("another LAND", x.coin(4, 0, 7), 1);
        });
        edge("that for the latest DAY not behind counts", () -> {
            ReelBack x = new ReelBack();
            x.coin(1, 300, 30);
            x.coin(1, 100, 10);
            x.coin(1, 200, 20);
            int[] days = {0, 99, 100, 199, 200, 299, 300, 3599};
            int[] want = {1000, 1000, 10, 10, 20, 20, 30, 30};
            for (int i = 0; i < days.length; i++) {
                due("on " + days[i], x.coinOn(1, days[i]), want[i]);
            }
        });
        edge("of several the one told last", () -> {
            ReelBack x = new ReelBack();
            x.coin(1, 50, 5);
            x.coin(1, 50, 6);
            x.coin(1, 40, 4);
            due("of two", x.coinOn(1, 50), 6);
            due("an earlier DAY", x.coinOn(1, 49), 4);
            x.coin(1, 50, 5);
            due("of three", x.coinOn(1, 3599), 5);
        });
    }

    private static void noLandIsMissing(ReelBack x, int land) {
        due("coin", x.coin(land, 0, 5), 1);
        due("coinOn", x.coinOn(land, 0), 5);
        due("stay", x.stay(0, land, 0, 0), land + 1);
        due("lives", x.lives(land, land, 0, 0), 1);
        due("point", x.point(0, land, 1), land);
        due("points", x.points(0, land, 0), 0);
        due("like", x.like(0, land, 0, 1), land + 1);
        due("cost", spend(x, 1, 0, land, 0, 1000), land);
        due("base", x.base(0, land, -1, 0, 0), 5);
        due("text", make(x, land * 10, 0, "k"), land);
        due("inForce", x.inForce(land * 10, 0, 0), land);
        due("law", x.law(land, 0, 0, 0, 1), 30);
        due("cap", x.cap(land, 0, 1), 99999999);
        due("ask", x.ask(0, land), land);
        due("gain", x.gain(land, 9, 0, 0, 0), 0);
    }

    private static void noLandIsThere(ReelBack x, int land) {
        due("house", x.house(land), NONE);
        due("person", x.person(land), NONE);
        due("coin", x.coin(land, 0, 5), NONE);
        due("coinOn", x.coinOn(land, 0), NONE);
        due("stay", x.stay(0, land, 0, 0), NONE);
        due("lives", x.lives(0, land, 0, 0), NONE);
        due("point", x.point(0, land, 1), NONE);
        due("points", x.points(0, land, 0), NONE);
        due("like", x.like(0, land, 0, 1), NONE);
        due("base", x.base(0, land, -1, 0, 0), NONE);
        due("law", x.law(land, 0, 0, 0, 1), NONE);
        due("cap", x.cap(land, 0, 1), NONE);
        due("ask", x.ask(0, land), NONE);
        due("gain", x.gain(land, 0, 0, 0, 0), NO_VALUE);
        if (land == -1 || land == 6) {
            feed(x, "k");
            due("text", x.text(land * 10, 0), NONE);
            due("inForce", x.inForce(land * 10, 0, 0), NONE);
        }
        if (land == 6) {
            due("cost", spend(x, 1, 0, land, 0, 1000), NONE);
        }
    }

    private static void termsOfHouses() {
        edge("HOUSES 0 .. 19, as they come, of a LAND", () -> {
            ReelBack x = new ReelBack();
            for (int i = 0; i <= 19; i++) {
                due("house", x.house(i % 6), i);
            }
            due("the 21st", x.house(0), FULL);
            due("how many", x.count(0), 20);
            due("the last one's film", x.film(19, 1), 0);
            make(x, 10, 0, "l*100");
            goods(x, 0, 1, 19, 70);
            goods(x, 0, 1, 18, 70);
            due("house 19 is of LAND 1", x.counted(0, 0, 2), 70);
            due("house 18 is of LAND 0", x.counted(1, 0, 2), 0);
        });
        edge("RELATED are HOUSES told as such (both ways, from then on; AS KNOWN)", () -> {
            ReelBack x = studio();
            x.house(2);
            x.film(1, 1);
            x.days(10);
            goods(x, 0, 0, 1, 50);
            goods(x, 1, 0, 0, 50);
            goods(x, 0, 0, 2, 50);
            goods(x, 0, 0, 0, 50);
            due("not yet", x.counted(0, 10, 0), 50);
            x.days(5);
            x.relate(0, 1);
            x.relate(1, 2);
            due("as known ahead", x.counted(0, 14, 0), 50);
            due("from then on", x.counted(0, 15, 0), 0);
            due("on the last DAY", x.counted(0, 3599, 0), 0);
            due("the other way", x.counted(1, 15, 0), 0);
            due("the other way, as known ahead", x.counted(1, 14, 0), 50);
            due("not through another HOUSE", x.counted(2, 15, 0), 50);
            due("not with itself", x.counted(3, 15, 0), 50);
        });
        edge("FILMS 0 .. 19, as they come: a HOUSE, EPISODES 1 .. 9", () -> {
            ReelBack x = studio();
            due("EPISODES 0", x.film(0, 0), NONE);
            due("EPISODES 10", x.film(0, 10), NONE);
            due("EPISODES 1", x.film(0, 1), 1);
            due("EPISODES 9", x.film(1, 9), 2);
            for (int i = 3; i <= 19; i++) {
                due("film", x.film(0, 1), i);
            }
            due("the 21st", x.film(0, 1), FULL);
            due("how many", x.count(1), 20);
            due("its HOUSE", x.sell(2, 0), 1);
        });
        edge("SOLD: a FILM goes to another HOUSE TODAY (who gets what is paid from then on)", () -> {
            ReelBack x = studio();
            wage(x, 0, 0, 1000);
            x.ask(0, 0);
            x.advance(0);
            x.sell(0, 1);
            x.settle(0);
            due("what was paid ahead", x.got(0), 150);
            due("what is paid from then on", x.got(1), 150);
        });
    }

    private static void termsOfStays() {
        edge("PERSONS 0 .. 59, as they come: a home LAND", () -> {
            ReelBack x = new ReelBack();
            for (int i = 0; i <= 59; i++) {
                due("person", x.person(i % 6), i);
            }
            due("the 61st", x.person(0), FULL);
            due("how many", x.count(2), 60);
            due("the last one's home", x.lives(59, 5, 0, 0), 1);
            due("the first one's home", x.lives(0, 0, 3599, 0), 1);
        });
        edge("STAYS (at most 200): a PERSON in a LAND from a DAY to a DAY", () -> {
            ReelBack x = studio();
            due("of one DAY", x.stay(1, 5, 9, 9), 1);
            due("of one PERSON", x.stay(0, 2, 500, 682), 2);
            due("from 500 to 682", x.lives(0, 2, 682, 0), 1);
            due("from 500", x.lives(0, 2, 681, 0), 0);
            due("to 682", x.lives(0, 2, 859, 0), 1);
            due("not longer", x.lives(0, 2, 860, 0), 0);
            due("not of another PERSON", x.lives(1, 2, 682, 0), 0);
            due("who is at home", x.lives(1, 1, 682, 0), 1);
            for (int i = 3; i <= 200; i++) {
                due("stay", x.stay(1, 5, i, i), i);
            }
            due("the 201st", x.stay(0, 0, 500, 500), FULL);
            due("how many", x.count(5), 200);
            due("is not told", x.lives(0, 2, 682, 0), 1);
        });
        edge("(told, also for past DAYS;", () -> {
            ReelBack x = studio();
            years(x, 1);
            x.days(200);
            due("of DAYS 0 to 182", x.stay(0, 1, 0, 182), 1);
            due("then", x.lives(0, 1, 182, 560), 1);
            due("of DAYS to come", x.stay(0, 2, 3417, 3599), 2);
            due("then", x.lives(0, 2, 3599, 560), 1);
        });
        edge("of a DAY in several the one told last counts", () -> {
            ReelBack x = studio();
            x.stay(0, 2, 1000, 1182);
            x.stay(0, 3, 1182, 1300);
            due("the last DAY is in LAND 3", x.lives(0, 2, 1182, 0), 0);
            x.stay(0, 2, 1182, 1182);
            due("and in LAND 2 again", x.lives(0, 2, 1182, 0), 1);
            x.stay(0, 4, 900, 1000);
            due("the first DAY is in LAND 4", x.lives(0, 2, 1182, 0), 0);
            x.stay(1, 2, 1000, 1000);
            due("another PERSON's counts not", x.lives(0, 2, 1182, 0), 0);
        });
        edge("else the home LAND)", () -> {
            ReelBack x = studio();
            due("without STAYS", x.lives(1, 1, 2000, 0), 1);
            x.stay(1, 4, 1000, 1177);
            due("177 DAYS away", x.lives(1, 1, 1176, 0), 1);
            due("178 DAYS away", x.lives(1, 1, 1177, 0), 0);
        });
    }

    private static void termsOfLiving() {
        edge("LIVES in a LAND on DAY d AS KNOWN on DAY k: of the 360 DAYS d - 359 .. d", () -> {
            ReelBack x = studio();
            x.stay(0, 1, 400, 582);
            due("DAY 582 is the last", x.lives(0, 1, 582, 0), 1);
            due("DAY 582 is behind it", x.lives(0, 1, 581, 0), 0);
            due("DAY 400 is the first", x.lives(0, 1, 759, 0), 1);
            due("DAY 400 is ahead of it", x.lives(0, 1, 760, 0), 0);
        });
        edge("(DAYS ahead of 0 are at home)", () -> {
            ReelBack x = studio();
            x.stay(0, 2, 0, 3599);
            due("one DAY there", x.lives(0, 0, 0, 0), 1);
            due("177 DAYS there", x.lives(0, 0, 176, 0), 1);
            due("178 DAYS there", x.lives(0, 0, 177, 0), 0);
            due("182 DAYS there", x.lives(0, 2, 181, 0), 0);
            due("183 DAYS there", x.lives(0, 2, 182, 0), 1);
            due("all 360 there", x.lives(0, 2, 359, 0), 1);
            due("none at home", x.lives(0, 0, 359, 0), 0);
        });
        edge("183 or more were there", () -> {
            ReelBack x = studio();
            x.stay(0, 3, 1, 182);
            due("182", x.lives(0, 3, 300, 0), 0);
            x.stay(0, 3, 250, 250);
            due("183, not in a row", x.lives(0, 3, 300, 0), 1);
            x.stay(0, 3, 251, 251);
            due("184", x.lives(0, 3, 300, 0), 1);
        });
        edge("by STAYS told by k", () -> {
            ReelBack x = studio();
            x.days(5);
            x.stay(0, 1, 0, 3599);
            due("ahead of the telling", x.lives(0, 1, 400, 4), 0);
            due("on its DAY", x.lives(0, 1, 400, 5), 1);
            due("later", x.lives(0, 1, 400, 3599), 1);
            x.days(1);
            x.stay(0, 0, 0, 3599);
            due("by DAY 5 as before", x.lives(0, 1, 400, 5), 1);
            due("by DAY 6", x.lives(0, 1, 400, 6), 0);
        });
    }

    private static void termsOfPoints() {
        edge("POINTS: a PERSON or PLACE gives a FILM so many (1 .. 20) in a LAND, told on a DAY", () -> {
            ReelBack x = studio();
            due("0", x.point(0, 0, 0), NONE);
            due("21", x.point(0, 0, 21), NONE);
            due("1", x.point(0, 0, 1), 0);
            due("20", x.point(0, 0, 20), 1);
            x.prove(0);
            x.prove(1);
            due("both", x.points(0, 0, 0), 21);
            due("another LAND", x.points(0, 1, 0), 0);
        });
        edge("PROVED (by call) on a DAY", () -> {
            ReelBack x = studio();
            x.point(0, 0, 7);
            due("told alone", x.points(0, 0, 3599), 0);
            x.prove(0);
            due("proved", x.points(0, 0, 0), 7);
        });
        edge("POINTS of a FILM in a LAND AS KNOWN on k: the sum of those PROVED by k", () -> {
            ReelBack x = studio();
            x.film(0, 1);
            x.point(0, 0, 3);
            x.point(0, 0, 4);
            x.point(1, 0, 5);
            x.days(2);
            x.prove(0);
            x.prove(2);
            x.days(2);
            x.prove(1);
            int[] want = {0, 0, 3, 3, 7};
            for (int k = 0; k < want.length; k++) {
                due("by " + k, x.points(0, 0, k), want[k]);
            }
            due("by the last DAY", x.points(0, 0, 3599), 7);
            due("another FILM", x.points(1, 0, 4), 5);
        });
        edge("(at most 100 tellings)", () -> {
            ReelBack x = studio();
            for (int i = 0; i < 100; i++) {
                due("point", x.point(0, 5, 20), i);
                x.prove(i);
            }
            due("the 101st", x.point(0, 4, 1), FULL);
            due("is none", x.prove(100), NONE);
            due("100 times 20", x.points(0, 5, 0), 2000);
        });
    }

    // ---- promises

    private static void newObject() {
        promise(1);
        edge("DAY 0", () -> due("DAY", new ReelBack().count(3), 0));
        edge("no houses", () -> {
            due("how many", new ReelBack().count(0), 0);
            due("house 0", new ReelBack().got(0), NONE);
            due("a film of house 0", new ReelBack().film(0, 1), NONE);
        });
        edge("no films", () -> {
            due("how many", new ReelBack().count(1), 0);
            due("film 0", new ReelBack().draw(0), NONE);
        });
        edge("no texts", () -> {
            ReelBack x = new ReelBack();
            due("how many", x.count(7), 0);
            due("text 0", x.tryText(0), NONE);
            for (int what = 0; what < 60; what++) {
                due("in force", x.inForce(what, 3599, 3599), what % 10 <= 4 ? NOT : NONE);
            }
        });
        edge("z 1", () -> {
            ReelBack x = studio();
            wages(x, 0, 0, 5, 100);
            // 1 * 1103515245 + 12345 = 1103527590, >>> 8 is 4310654
            due("drawn of 100", x.draw(0), 54);
        });
        edge("no films, no texts", () -> {
            for (int what = 0; what <= 13; what++) {
                due("count " + what, new ReelBack().count(what), 0);
            }
        });
    }

    private static void days() {
        promise(2);
        edge("n (1 .. 360) DAYS go by: DAY", () -> {
            ReelBack x = new ReelBack();
            due("1", x.days(1), 1);
            due("360", x.days(360), 361);
            due("0", x.days(0), NONE);
            due("361", x.days(361), NONE);
            due("-1", x.days(-1), NONE);
            due("MIN", x.days(MIN), NONE);
            due("MAX", x.days(MAX), NONE);
            due("as before", x.count(3), 361);
        });
        edge("NONE (also beyond 3599)", () -> {
            ReelBack x = new ReelBack();
            years(x, 9);
            due("to 3600", x.days(360), NONE);
            due("as before", x.count(3), 3240);
            due("to 3599", x.days(359), 3599);
            due("to 3600", x.days(1), NONE);
        });
    }

    private static void coins() {
        promise(3);
        edge("COIN of a LAND for DAYS (0 .. 3599) from one on: how many were told of it", () -> {
            ReelBack x = new ReelBack();
            due("DAY 0", x.coin(2, 0, 5), 1);
            due("DAY 3599", x.coin(2, 3599, 6), 2);
            due("DAY -1", x.coin(2, -1, 5), NONE);
            due("DAY 3600", x.coin(2, 3600, 5), NONE);
            due("another LAND", x.coin(1, 0, 7), 1);
            due("the DAY ahead", x.coinOn(2, 3598), 5);
            due("the last DAY", x.coinOn(2, 3599), 6);
        });
        edge("NONE, FULL", () -> {
            ReelBack x = new ReelBack();
            for (int i = 1; i <= 20; i++) {
                x.coin(0, 0, i);
            }
            due("full", x.coin(0, 0, 21), FULL);
            due("v 0 though full", x.coin(0, 0, 0), NONE);
            due("v 100000 though full", x.coin(0, 0, 100000), NONE);
            due("DAY 3600 though full", x.coin(0, 3600, 1), NONE);
            due("the one told last", x.coinOn(0, 0), 20);
        });
        promise(4);
        edge("COIN of a LAND on a DAY", () -> {
            ReelBack x = new ReelBack();
            x.coin(5, 7, 70);
            due("its LAND", x.coinOn(5, 7), 70);
            due("another LAND", x.coinOn(4, 7), 1000);
        });
        edge("NONE", () -> {
            ReelBack x = new ReelBack();
            due("DAY -1", x.coinOn(0, -1), NONE);
            due("DAY 3600", x.coinOn(0, 3600), NONE);
            due("LAND 6", x.coinOn(6, 0), NONE);
            due("LAND -1", x.coinOn(-1, 3599), NONE);
            due("DAY 3599", x.coinOn(5, 3599), 1000);
        });
    }

    private static void houses() {
        promise(5);
        edge("A HOUSE: its number", () -> {
            ReelBack x = new ReelBack();
            due("the first", x.house(5), 0);
            due("the second", x.house(5), 1);
        });
        edge("NONE, FULL", () -> {
            ReelBack x = new ReelBack();
            for (int i = 0; i < 20; i++) {
                x.house(0);
            }
            due("full", x.house(5), FULL);
            due("LAND 6 though full", x.house(6), NONE);
            due("LAND -1 though full", x.house(-1), NONE);
        });
        promise(6);
        edge("Two HOUSES are RELATED from TODAY on: 1", () -> {
            ReelBack x = studio();
            x.days(3599 - 3240);
            goods(x, 0, 0, 1, 8);
            due("related", x.relate(1, 0), 1);
            due("TODAY", x.counted(0, 359, 0), 0);
            due("the DAY ahead", x.counted(0, 358, 0), 8);
        });
        edge("NONE (also one and the same)", () -> {
            ReelBack x = studio();
            due("the same", x.relate(0, 0), NONE);
            due("the same, the last", x.relate(1, 1), NONE);
            due("HOUSE 2 is none", x.relate(0, 2), NONE);
            due("HOUSE 2 is none", x.relate(2, 0), NONE);
            due("HOUSE -1", x.relate(-1, 0), NONE);
            due("HOUSE -1", x.relate(0, -1), NONE);
            due("HOUSE 20", x.relate(20, 0), NONE);
            due("none, twice", x.relate(7, 7), NONE);
        });
        edge("STATE: they are", () -> {
            ReelBack x = studio();
            x.house(0);
            x.relate(0, 1);
            due("again", x.relate(0, 1), STATE);
            due("the other way", x.relate(1, 0), STATE);
            x.days(9);
            due("on another DAY", x.relate(1, 0), STATE);
            goods(x, 0, 0, 1, 8);
            due("from the first DAY", x.counted(0, 0, 0), 0);
            due("others are not", x.relate(0, 2), 1);
        });
        edge("NONE (also one and the same); STATE", () -> {
            ReelBack x = new ReelBack();
            for (int i = 0; i < 20; i++) {
                x.house(0);
            }
            due("the first and the last", x.relate(0, 19), 1);
            due("the last and the first", x.relate(19, 0), STATE);
            due("the last two", x.relate(19, 18), 1);
            due("the same", x.relate(19, 19), NONE);
            due("HOUSE 20", x.relate(19, 20), NONE);
        });
    }

    private static void films() {
        promise(7);
        edge("A FILM: its number", () -> {
            ReelBack x = studio();
            due("the second", x.film(1, 3), 1);
            due("the third", x.film(1, 3), 2);
        });
        edge("NONE, FULL", () -> {
            ReelBack x = studio();
            due("HOUSE 2 is none", x.film(2, 1), NONE);
            due("HOUSE -1", x.film(-1, 1), NONE);
            due("EPISODES -1", x.film(0, -1), NONE);
            for (int i = 1; i < 20; i++) {
                x.film(0, 1);
            }
            due("full", x.film(0, 1), FULL);
            due("EPISODES 0 though full", x.film(0, 0), NONE);
            due("EPISODES 10 though full", x.film(0, 10), NONE);
            due("no HOUSE though full", x.film(2, 1), NONE);
        });
        promise(8);
        edge("SOLD to a HOUSE: the HOUSE till now", () -> {
            ReelBack x = studio();
            due("of HOUSE 0", x.sell(0, 1), 0);
            due("of HOUSE 1", x.sell(0, 0), 1);
        });
        edge("NONE (also the same)", () -> {
            ReelBack x = studio();
            due("the same", x.sell(0, 0), NONE);
            due("FILM 1 is none", x.sell(1, 1), NONE);
            due("FILM -1", x.sell(-1, 1), NONE);
            due("FILM 20", x.sell(20, 1), NONE);
            due("HOUSE 2 is none", x.sell(0, 2), NONE);
            due("HOUSE -1", x.sell(0, -1), NONE);
            x.sell(0, 1);
            due("the same now", x.sell(0, 1), NONE);
        });
    }

    private static void persons() {
        promise(9);
        edge("A PERSON: its number", () -> {
            ReelBack x = new ReelBack();
            due("the first", x.person(0), 0);
            due("the second", x.person(5), 1);
        });
        edge("NONE, FULL", () -> {
            ReelBack x = new ReelBack();
            for (int i = 0; i < 60; i++) {
                x.person(0);
            }
            due("full", x.person(0), FULL);
            due("LAND 6 though full", x.person(6), NONE);
            due("LAND -1 though full", x.person(-1), NONE);
        });
        promise(10);
        edge("A STAY (DAYS 0 .. 3599): how many there are", () -> {
            ReelBack x = studio();
            due("from 0 to 3599", x.stay(0, 5, 0, 3599), 1);
            due("from 3599 to 3599", x.stay(1, 5, 3599, 3599), 2);
            due("from -1", x.stay(0, 5, -1, 9), NONE);
            due("to 3600", x.stay(0, 5, 9, 3600), NONE);
            due("from 3600", x.stay(0, 5, 3600, 3600), NONE);
            due("to -1", x.stay(0, 5, 0, -1), NONE);
            due("to the DAY ahead", x.stay(0, 5, 9, 8), NONE);
            due("how many", x.count(5), 2);
        });
        edge("NONE, FULL", () -> {
            ReelBack x = studio();
            due("PERSON 2 is none", x.stay(2, 0, 0, 0), NONE);
            due("PERSON -1", x.stay(-1, 0, 0, 0), NONE);
            due("PERSON 60", x.stay(60, 0, 0, 0), NONE);
            for (int i = 0; i < 200; i++) {
                x.stay(0, 1, i, i);
            }
            due("full", x.stay(0, 0, 0, 199), FULL);
            due("no PERSON though full", x.stay(2, 0, 0, 0), NONE);
            due("LAND 6 though full", x.stay(0, 6, 0, 0), NONE);
            due("to the DAY ahead though full", x.stay(0, 0, 1, 0), NONE);
            due("all 200 count", x.lives(0, 1, 199, 0), 1);
        });
        promise(11);
        edge("Whether a PERSON LIVES in a LAND on DAY d AS KNOWN on k", () -> {
            ReelBack x = studio();
            due("it does", x.lives(1, 1, 3599, 3599), 1);
            due("it does not", x.lives(1, 0, 0, 0), 0);
        });
        edge("NONE", () -> {
            ReelBack x = studio();
            due("PERSON 2 is none", x.lives(2, 0, 0, 0), NONE);
            due("PERSON -1", x.lives(-1, 0, 0, 0), NONE);
            due("LAND 6", x.lives(0, 6, 0, 0), NONE);
            due("d -1", x.lives(0, 0, -1, 0), NONE);
            due("d 3600", x.lives(0, 0, 3600, 0), NONE);
            due("k -1", x.lives(0, 0, 0, -1), NONE);
            due("k 3600", x.lives(0, 0, 0, 3600), NONE);
        });
    }

    private static void points() {
        promise(12);
        edge("POINTS of a FILM in a LAND are told: their number", () -> {
            ReelBack x = studio();
            due("the first", x.point(0, 0, 3), 0);
            due("the second", x.point(0, 5, 3), 1);
        });
        edge("NONE, FULL", () -> {
            ReelBack x = studio();
            due("FILM 1 is none", x.point(1, 0, 1), NONE);
            due("FILM -1", x.point(-1, 0, 1), NONE);
            for (int i = 0; i < 100; i++) {
                x.point(0, 0, 1);
            }
            due("full", x.point(0, 0, 1), FULL);
            due("no FILM though full", x.point(1, 0, 1), NONE);
            due("21 though full", x.point(0, 0, 21), NONE);
            due("LAND 6 though full", x.point(0, 6, 1), NONE);
        });
        promise(13);
        edge("They are PROVED TODAY: 1", () -> {
            ReelBack x = studio();
            x.point(0, 0, 9);
            x.days(4);
            due("proved", x.prove(0), 1);
            due("TODAY", x.points(0, 0, 4), 9);
            due("the DAY ahead", x.points(0, 0, 3), 0);
        });
        edge("NONE, STATE", () -> {
            ReelBack x = studio();
            due("none told", x.prove(0), NONE);
            x.point(0, 0, 9);
            due("none such", x.prove(1), NONE);
            due("-1", x.prove(-1), NONE);
            due("100", x.prove(100), NONE);
            x.prove(0);
            due("again", x.prove(0), STATE);
            x.days(1);
            due("again, later", x.prove(0), STATE);
            due("of the first DAY", x.points(0, 0, 0), 9);
        });
        promise(14);
        edge("POINTS of a FILM in a LAND AS KNOWN on k", () -> {
            ReelBack x = studio();
            x.film(0, 1);
            x.point(0, 0, 9);
            x.prove(0);
            due("known", x.points(0, 0, 0), 9);
            due("known on the last DAY", x.points(0, 0, 3599), 9);
            due("another LAND", x.points(0, 5, 0), 0);
            due("another FILM", x.points(1, 0, 0), 0);
        });
        edge("NONE", () -> {
            ReelBack x = studio();
            due("FILM 1 is none", x.points(1, 0, 0), NONE);
            due("FILM -1", x.points(-1, 0, 0), NONE);
            due("LAND 6", x.points(0, 6, 0), NONE);
            due("k -1", x.points(0, 0, -1), NONE);
            due("k 3600", x.points(0, 0, 3600), NONE);
        });
    }
}
