/** Terms 2, promises 15 to 21: costs, likes, doubles, what counts. */
final class CostEdges extends Edges {
    static void all() {
        chapter("Terms 2");
        termsOfCosts();
        termsOfWhoGetsIt();
        termsOfLikes();
        termsOfFair();
        termsOfDoubles();
        set();
        cost();
        of();
        like();
        span();
        counted();
        base();
    }

    /** HOUSES and PERSONS 0 to 5 of LANDS 0 to 5, FILMS 0 and 1 of HOUSES 0 and 1, on DAY 200. */
    private static ReelBack town() {
        ReelBack x = new ReelBack();
        for (int i = 0; i < 6; i++) {
            x.house(i);
            x.person(i);
        }
        x.film(0, 3);
        x.film(1, 1);
        x.days(200);
        return x;
    }

    // ---- terms

    private static void termsOfCosts() {
        edge("COSTS 0 .. 149, as they come", () -> {
            ReelBack x = town();
            draft(x, 0, 0, 0, 0);
            for (int i = 0; i <= 149; i++) {
                due("cost", x.cost(1 + i % 6, i + 1), i);
            }
            due("the 151st", x.cost(1, 1), FULL);
            due("how many", x.count(4), 150);
            due("COINS of the first", x.of(0, 4), 1);
            due("COINS of the last", x.of(149, 4), 150);
            due("none such", x.of(150, 4), NO_VALUE);
            due("all count", x.base(0, 0, -1, 200, 0), 11325);
        });
        edge("(on TODAY, of a DAY TODAY or ahead)", () -> {
            ReelBack x = town();
            draft(x, 0, 0, 201, 0);
            due("tomorrow", x.cost(1, 5), NONE);
            x.set(3, 99999);
            due("far on", x.cost(1, 5), NONE);
            x.set(3, 200);
            due("TODAY", x.cost(1, 5), 0);
            x.set(3, 0);
            due("DAY 0", x.cost(1, 5), 1);
            x.days(1);
            x.set(3, 201);
            due("tomorrow is TODAY", x.cost(1, 5), 2);
        });
        edge("of KINDS: 1 WAGE, 2 GOODS, 3 RENT, 4 FEE, 5 LOT, 6 CARRIAGE", () -> {
            ReelBack x = town();
            draft(x, 0, 0, 0, 0);
            due("KIND 0", x.cost(0, 5), NONE);
            due("KIND 7", x.cost(7, 5), NONE);
            due("KIND -1", x.cost(-1, 5), NONE);
            due("KIND MAX", x.cost(MAX, 5), NONE);
            for (int kind = 1; kind <= 6; kind++) {
                due("KIND " + kind, x.cost(kind, 5), kind - 1);
                due("KIND " + kind, x.of(kind - 1, 0), kind);
            }
        });
        edge("LOT and RENT are under GOODS; WAGE, GOODS, FEE are under 0 COST; CARRIAGE is under FEE", () -> {
            ReelBack x = town();
            draft(x, 0, 0, 0, 0);
            String[] takers = {"01", "02", "023", "04", "025", "046"};
            for (int i = 0; i < 6; i++) {
                x.cost(i + 1, 5);
                for (int k = 0; k <= 6; k++) {
                    boolean under = takers[i].indexOf('0' + k) >= 0;
                    due(i + 1 + " taken for " + k, x.taken(i, k), under ? i + 1 : CAST);
                }
            }
        });
        edge("Each: a FILM, an EPISODE (0 .. its EPISODES less 1)", () -> {
            ReelBack x = town();
            draft(x, 0, 0, 0, 0);
            x.set(1, 2);
            due("EPISODE 2 of three", x.cost(1, 5), 0);
            x.set(1, 3);
            due("EPISODE 3 of three", x.cost(1, 5), NONE);
            x.set(1, 1);
            x.set(0, 1);
            due("EPISODE 1 of one", x.cost(1, 5), NONE);
            x.set(1, 0);
            due("EPISODE 0 of one", x.cost(1, 5), 1);
            int[] none = {2, 19, 20, 99999};
            for (int i = 0; i < none.length; i++) {
                x.set(0, none[i]);
                due("FILM " + none[i] + " is none", x.cost(1, 5), NONE);
            }
        });
        edge("the LAND where it is spent, COINS of that LAND (1 .. 99999), a DAY", () -> {
            ReelBack x = town();
            x.coin(5, 0, 2000);
            draft(x, 0, 5, 7, 0);
            due("COINS 0", x.cost(1, 0), NONE);
            due("COINS 100000", x.cost(1, 100000), NONE);
            due("COINS -1", x.cost(1, -1), NONE);
            due("COINS MIN", x.cost(1, MIN), NONE);
            due("COINS 1", x.cost(1, 1), 0);
            due("COINS 99999", x.cost(1, 99999), 1);
            due("LAND", x.of(1, 3), 5);
            due("DAY", x.of(1, 5), 7);
            due("COINS of that LAND", x.counted(1, 200, 2), 199998);
            due("are not told in another's", x.of(1, 4), 99999);
            x.set(2, 6);
            due("LAND 6", x.cost(1, 1), NONE);
            x.set(2, 99999);
            due("LAND 99999", x.cost(1, 1), NONE);
        });
    }

    private static void termsOfWhoGetsIt() {
        edge("who gets it: of WAGE and FEE (CARRIAGE too) a PERSON", () -> {
            ReelBack x = studio();
            x.person(3);
            draft(x, 0, 0, 0, 2);
            due("WAGE of PERSON 2", x.cost(1, 5), 0);
            due("FEE of PERSON 2", x.cost(4, 5), 1);
            due("CARRIAGE of PERSON 2", x.cost(6, 5), 2);
            due("HOUSE 2 is none", x.cost(2, 5), NONE);
            x.set(4, 3);
            due("PERSON 3 is none", x.cost(1, 5), NONE);
            due("PERSON 3 is none", x.cost(4, 5), NONE);
            due("PERSON 3 is none", x.cost(6, 5), NONE);
            x.set(4, 60);
            due("PERSON 60", x.cost(1, 5), NONE);
        });
        edge("of GOODS, LOT, RENT a HOUSE", () -> {
            ReelBack x = studio();
            x.house(3);
            draft(x, 0, 0, 0, 2);
            due("GOODS of HOUSE 2", x.cost(2, 5), 0);
            due("LOT of HOUSE 2", x.cost(5, 5), 1);
            due("RENT of HOUSE 2", x.cost(3, 5), 2);
            due("PERSON 2 is none", x.cost(1, 5), NONE);
            x.set(4, 3);
            due("HOUSE 3 is none", x.cost(2, 5), NONE);
            due("HOUSE 3 is none", x.cost(5, 5), NONE);
            due("HOUSE 3 is none", x.cost(3, 5), NONE);
            x.set(4, 99999);
            due("HOUSE 99999", x.cost(2, 5), NONE);
        });
        edge("a RECEIPT (a number 1 .. 99999)", () -> {
            ReelBack x = town();
            draft(x, 0, 0, 0, 0);
            x.set(5, 0);
            due("0", x.cost(1, 5), NONE);
            x.set(5, 1);
            due("1", x.cost(1, 5), 0);
            x.set(5, 99999);
            due("99999", x.cost(1, 5), 1);
            due("as told", x.of(1, 7), 99999);
        });
        edge("a SORT (0 .. 19; of things that are like)", () -> {
            ReelBack x = town();
            draft(x, 0, 0, 0, 0);
            due("0", x.cost(1, 5), 0);
            x.set(6, 19);
            due("19", x.cost(1, 5), 1);
            x.set(6, 20);
            due("20", x.cost(1, 5), NONE);
            due("as told", x.of(1, 8), 19);
        });
    }

    private static void termsOfLikes() {
        edge("LIKES of a SORT in a LAND: prices told (1 .. 99999) of DAYS", () -> {
            ReelBack x = town();
            due("0", x.like(0, 0, 0, 0), NONE);
            due("100000", x.like(0, 0, 0, 100000), NONE);
            due("1", x.like(0, 0, 200, 1), 1);
            due("99999", x.like(0, 0, 200, 99999), 2);
            wage(x, 0, 0, 5);
            due("the least", x.span(0, 200, 0), 1);
            due("the greatest", x.span(0, 200, 1), 99999);
        });
        edge("(at most 120 in all; KNOWN from their telling on)", () -> {
            ReelBack x = town();
            wage(x, 0, 0, 5);
            for (int i = 1; i <= 119; i++) {
                due("like", x.like(0, 0, 200, 200 - i), i);
            }
            x.days(1);
            due("the last", x.like(0, 0, 200, 7), 120);
            due("full", x.like(1, 1, 200, 6), FULL);
            due("how many", x.count(6), 120);
            due("known ahead", x.span(0, 200, 3), 119);
            due("known ahead of all", x.span(0, 199, 3), 0);
            due("known then", x.span(0, 201, 3), 120);
            due("the least known ahead", x.span(0, 200, 0), 81);
            due("the least known then", x.span(0, 201, 0), 7);
            due("the greatest", x.span(0, 201, 1), 199);
            due("the middle of 119", x.span(0, 200, 2), 140);
        });
        edge("SPAN of a COST AS KNOWN on k: the least and the greatest of LIKES of its SORT and LAND of DAYS at most 90 "
            + "from its DAY, known by k", () -> {
            ReelBack x = town();
            x.days(100);
            draft(x, 0, 0, 150, 0);
            x.set(6, 4);
            x.cost(1, 5);
            x.like(4, 0, 59, 1);
            x.like(4, 0, 241, 900);
            x.like(3, 0, 150, 2);
            x.like(4, 1, 150, 3);
            due("91 DAYS off, another SORT, another LAND", x.span(0, 300, 3), 0);
            x.like(4, 0, 60, 50);
            x.like(4, 0, 240, 60);
            due("90 DAYS to both sides", x.span(0, 300, 3), 2);
            due("the least", x.span(0, 300, 0), 50);
            due("the greatest", x.span(0, 300, 1), 60);
            due("not known by 299", x.span(0, 299, 3), 0);
        });
    }

    private static void termsOfFair() {
        edge("FAIR of a COST: its COINS", () -> {
            ReelBack x = town();
            x.relate(0, 2);
            x.like(0, 0, 200, 3);
            goods(x, 0, 0, 1, 50);
            spend(x, 1, 0, 0, 2, 50);
            due("of a HOUSE that is not RELATED", x.counted(0, 200, 0), 50);
            due("of a PERSON with a RELATED HOUSE's number", x.counted(1, 200, 0), 50);
        });
        edge("but if the HOUSE that gets it is RELATED to that of the FILM (AS KNOWN on k)", () -> {
            ReelBack x = town();
            int[] kinds = {2, 3, 5};
            for (int i = 0; i < 3; i++) {
                spend(x, kinds[i], 0, 0, 2, 50);
            }
            x.days(1);
            x.relate(0, 2);
            for (int i = 0; i < 3; i++) {
                due("ahead of it", x.counted(i, 200, 0), 50);
                due("from then on", x.counted(i, 201, 0), 0);
            }
            x.sell(0, 1);
            due("the FILM is of HOUSE 1 now", x.counted(0, 201, 0), 50);
        });
        edge("the lesser of COINS and the middle one of these LIKES", () -> {
            ReelBack x = town();
            x.relate(0, 2);
            x.like(0, 0, 200, 50);
            int[] coins = {49, 50, 51, 99999};
            int[] want = {49, 50, 50, 50};
            for (int i = 0; i < coins.length; i++) {
                due("of " + coins[i], x.counted(goods(x, 0, 0, 2, coins[i]), 200, 0), want[i]);
            }
        });
        edge("(sorted; of an even number the lower one)", () -> {
            ReelBack x = town();
            x.relate(0, 2);
            goods(x, 0, 0, 2, 500);
            int[] prices = {90, 20, 70, 30, 20, 99, 1};
            int[] want = {90, 20, 70, 30, 30, 30, 30};
            for (int i = 0; i < prices.length; i++) {
                x.like(0, 0, 200, prices[i]);
                due("of " + (i + 1), x.counted(0, 200, 0), want[i]);
                due("the middle one of " + (i + 1), x.span(0, 200, 2), want[i]);
            }
            due("the least", x.span(0, 200, 0), 1);
            due("the greatest", x.span(0, 200, 1), 99);
        });
        edge("0, if there are none", () -> {
            ReelBack x = town();
            x.relate(0, 2);
            goods(x, 0, 0, 2, 50);
            due("FAIR", x.counted(0, 200, 0), 0);
            due("COUNTED", x.counted(0, 200, 2), 0);
            due("by no LINE", x.counted(0, 200, 3), -1);
            x.like(7, 0, 200, 30);
            draft(x, 0, 0, 200, 2);
            x.set(6, 7);
            x.cost(2, 50);
            due("there is one of SORT 7", x.counted(1, 200, 0), 30);
            due("none of SORT 0 behind it", x.counted(0, 200, 0), 0);
        });
    }

    private static void termsOfDoubles() {
        edge("DOUBLE: two COSTS with one RECEIPT, of unlike FILMS or LANDS: told", () -> {
            ReelBack x = town();
            draft(x, 0, 0, 0, 0);
            x.cost(1, 5);
            x.cost(2, 6);
            due("FILM and LAND are like", x.twice(0), NOT);
            x.set(0, 1);
            x.set(5, 2);
            x.cost(1, 5);
            due("another RECEIPT", x.twice(0), NOT);
            x.set(5, 1000);
            x.cost(1, 5);
            due("another FILM: with COSTS 0 and 1", x.twice(0), 2);
            x.set(0, 0);
            x.set(2, 1);
            x.cost(1, 5);
            due("another LAND: with COSTS 0 and 1, both unlike: with 3", x.twice(0), 5);
            int[] later = {0, 0, 0, 1, 1};
            for (int i = 0; i < later.length; i++) {
                due("whether " + i + " is a later one", x.counted(i, 200, 1), later[i]);
            }
        });
        edge("DOUBLE: two COSTS with one RECEIPT, of unlike FILMS or LANDS", () -> {
            ReelBack x = town();
            draft(x, 0, 0, 0, 0);
            x.cost(1, 5);
            x.set(0, 1);
            x.cost(1, 5);
            x.set(0, 0);
            x.cost(1, 5);
            due("0 and 1, 1 and 2", x.twice(0), 2);
            due("later than 0", x.counted(1, 200, 1), 1);
            due("like 0, later than 1", x.counted(2, 200, 1), 1);
            due("the first", x.counted(0, 200, 1), 0);
        });
        edge("just the first one (by number) counts in a LAND's claim, if the act of DOUBLES says so (see 3)", () -> {
            ReelBack x = town();
            draft(x, 0, 0, 200, 0);
            x.cost(1, 40);
            x.set(0, 1);
            x.set(3, 10);
            x.cost(1, 30);
            due("the first by number, on a later DAY", x.counted(0, 200, 2), 40);
            due("the later by number", x.counted(1, 200, 2), 0);
            due("is a DOUBLE of COST 0 alone", x.counted(1, 200, 1), 1);
            due("the first FILM's claim", x.base(0, 0, -1, 200, 0), 40);
            due("the other FILM's claim", x.base(1, 0, -1, 200, 0), 0);
            make(x, 4, 0, "1");
            due("the act says that it counts", x.base(1, 0, -1, 200, 0), 30);
            due("the first as before", x.base(0, 0, -1, 200, 0), 40);
        });
    }

    // ---- promises

    private static void set() {
        promise(15);
        edge("A COST is begun: what the next cost() is of: 0 FILM, 1 EPISODE, 2 LAND, 3 DAY, 4 who gets it, 5 RECEIPT, "
            + "6 SORT", () -> {
            ReelBack x = town();
            int[] v = {0, 2, 3, 150, 5, 77, 11};
            int[] place = {1, 2, 3, 5, 6, 7, 8};
            for (int what = 0; what <= 6; what++) {
                x.set(what, v[what]);
            }
            x.cost(1, 5);
            x.set(5, 78);
            x.cost(1, 5);
            for (int what = 0; what <= 6; what++) {
                due("of the first, " + what, x.of(0, place[what]), v[what]);
                due("of the next, " + what, x.of(1, place[what]), what == 5 ? 78 : v[what]);
            }
        });
        edge("(0 .. 99999 each; all 0 at first): what it was", () -> {
            ReelBack x = new ReelBack();
            for (int what = 0; what <= 6; what++) {
                due("at first", x.set(what, 99999), 0);
                due("100000", x.set(what, 100000), NONE);
                due("-1", x.set(what, -1), NONE);
                due("MAX", x.set(what, MAX), NONE);
                due("what it was", x.set(what, 0), 99999);
                due("what it was", x.set(what, what + 1), 0);
            }
            for (int what = 0; what <= 6; what++) {
                due("each by itself", x.set(what, 0), what + 1);
            }
        });
        edge("NONE", () -> {
            ReelBack x = new ReelBack();
            due("what -1", x.set(-1, 0), NONE);
            due("what 7", x.set(7, 0), NONE);
            due("what MIN", x.set(MIN, 0), NONE);
        });
    }

    private static void cost() {
        promise(16);
        edge("A COST of a KIND (1 .. 6) by what was set: its number", () -> {
            ReelBack x = town();
            draft(x, 0, 0, 0, 0);
            due("the first", x.cost(6, 5), 0);
            due("the second", x.cost(6, 5), 1);
            due("0", x.cost(0, 5), NONE);
            due("7", x.cost(7, 5), NONE);
            due("the third", x.cost(1, 5), 2);
        });
        edge("NONE (also what was set is not as said for that KIND)", () -> {
            ReelBack x = town();
            due("nothing was set: RECEIPT 0", x.cost(1, 5), NONE);
            draft(x, 0, 0, 0, 5);
            x.person(0);
            x.set(4, 6);
            due("PERSON 6", x.cost(1, 5), 0);
            due("no HOUSE 6", x.cost(2, 5), NONE);
            due("no HOUSE 6", x.cost(3, 5), NONE);
            due("no HOUSE 6", x.cost(5, 5), NONE);
            due("how many", x.count(4), 1);
        });
        edge(", FULL", () -> {
            ReelBack x = town();
            wages(x, 0, 0, 5, 150);
            due("full", x.cost(1, 5), FULL);
            due("COINS 0 though full", x.cost(1, 0), NONE);
            due("KIND 7 though full", x.cost(7, 5), NONE);
            x.set(5, 0);
            due("RECEIPT 0 though full", x.cost(1, 5), NONE);
        });
    }

    private static void of() {
        promise(17);
        edge("Of a COST: 0 KIND, 1 FILM, 2 EPISODE, 3 LAND, 4 COINS (as KNOWN TODAY), 5 DAY, 6 who gets it, 7 RECEIPT, "
            + "8 SORT", () -> {
            ReelBack x = town();
            int[] v = {0, 2, 3, 150, 5, 77, 11};
            for (int what = 0; what <= 6; what++) {
                x.set(what, v[what]);
            }
            x.cost(5, 640);
            x.days(1);
            x.audit(0, 600);
            int[] want = {5, 0, 2, 3, 40, 150, 5, 77, 11};
            for (int what = 0; what <= 8; what++) {
                due("what " + what, x.of(0, what), want[what]);
            }
        });
        edge("9 AUDITED: 0 not, 1 right, 2 wrong", () -> {
            ReelBack x = town();
            wages(x, 0, 0, 5, 3);
            x.audit(1, 0);
            x.audit(2, 1);
            for (int cost = 0; cost <= 2; cost++) {
                due("COST " + cost, x.of(cost, 9), cost);
            }
        });
        edge("NO_VALUE: none such", () -> {
            ReelBack x = town();
            due("no COST", x.of(0, 0), NO_VALUE);
            wage(x, 0, 0, 5);
            due("what -1", x.of(0, -1), NO_VALUE);
            due("what 10", x.of(0, 10), NO_VALUE);
            due("COST 1", x.of(1, 0), NO_VALUE);
            due("COST -1", x.of(-1, 0), NO_VALUE);
            due("COST 150", x.of(150, 0), NO_VALUE);
            wages(x, 0, 0, 5, 149);
            due("COST 149", x.of(149, 0), 1);
            due("COST 150 when full", x.of(150, 0), NO_VALUE);
        });
    }

    private static void like() {
        promise(18);
        edge("A price of a SORT in a LAND of a DAY (TODAY or ahead): how many there are", () -> {
            ReelBack x = town();
            due("tomorrow", x.like(0, 0, 201, 5), NONE);
            due("DAY -1", x.like(0, 0, -1, 5), NONE);
            due("TODAY", x.like(0, 0, 200, 5), 1);
            due("DAY 0", x.like(19, 5, 0, 5), 2);
            due("SORT 20", x.like(20, 0, 0, 5), NONE);
            due("SORT -1", x.like(-1, 0, 0, 5), NONE);
            due("price -1", x.like(0, 0, 0, -1), NONE);
            due("how many", x.count(6), 2);
        });
        edge("NONE, FULL", () -> {
            ReelBack x = town();
            for (int i = 0; i < 120; i++) {
                x.like(0, 0, 0, 5);
            }
            due("full", x.like(0, 0, 0, 5), FULL);
            due("price 0 though full", x.like(0, 0, 0, 0), NONE);
            due("tomorrow though full", x.like(0, 0, 201, 5), NONE);
            due("SORT 20 though full", x.like(20, 0, 0, 5), NONE);
        });
    }

    private static void span() {
        promise(19);
        edge("SPAN of a COST AS KNOWN on k: the least (what 0), greatest (1), middle (2) of its LIKES, how many (3)", () -> {
            ReelBack x = town();
            wage(x, 0, 0, 5);
            x.like(0, 0, 200, 8);
            for (int what = 0; what <= 2; what++) {
                due("of one", x.span(0, 200, what), 8);
            }
            x.like(0, 0, 200, 6);
            x.like(0, 0, 200, 7);
            int[] want = {6, 8, 7, 3};
            for (int what = 0; what <= 3; what++) {
                due("what " + what, x.span(0, 200, what), want[what]);
            }
        });
        edge("NONE; NOT: none (0 to 2)", () -> {
            ReelBack x = town();
            wage(x, 0, 0, 5);
            for (int what = 0; what <= 2; what++) {
                due("none", x.span(0, 200, what), NOT);
            }
            due("how many: none", x.span(0, 200, 3), 0);
            due("what 4", x.span(0, 200, 4), NONE);
            due("what -1", x.span(0, 200, -1), NONE);
            due("k 3600", x.span(0, 3600, 0), NONE);
            due("k -1", x.span(0, -1, 3), NONE);
            due("COST 1 is none", x.span(1, 200, 0), NONE);
            due("COST -1", x.span(-1, 200, 3), NONE);
        });
    }

    private static void counted() {
        promise(20);
        edge("FAIR (what 0), whether it is a later DOUBLE (1), COUNTED in its LAND (2)", () -> {
            ReelBack x = town();
            x.coin(1, 0, 3000);
            make(x, 10, 0, "50");
            draft(x, 0, 1, 0, 0);
            x.cost(1, 7);
            x.set(0, 1);
            x.cost(1, 9);
            int[] first = {7, 0, 10};
            int[] second = {9, 1, 0};
            for (int what = 0; what <= 2; what++) {
                due("the first, " + what, x.counted(0, 200, what), first[what]);
                due("the second, " + what, x.counted(1, 200, what), second[what]);
            }
        });
        edge("by which LINE of COUNTS (3; -1: by none, also as a DOUBLE that does not count) AS KNOWN on k", () -> {
            ReelBack x = town();
            draft(x, 0, 0, 0, 0);
            x.cost(1, 70);
            x.set(0, 1);
            x.cost(1, 90);
            due("without an act", x.counted(0, 200, 3), -1);
            make(x, 0, 0, "c=70?1;c=90?2");
            due("by LINE 0", x.counted(0, 200, 3), 0);
            due("a DOUBLE", x.counted(1, 200, 3), -1);
            due("not known", x.counted(0, 199, 3), -1);
            make(x, 4, 0, "1");
            due("a DOUBLE that counts, by LINE 1", x.counted(1, 200, 3), 1);
            x.days(1);
            make(x, 0, 0, "0?1;c=90?0");
            due("by none", x.counted(0, 201, 3), -1);
            due("by a LINE that gives 0", x.counted(1, 201, 3), 1);
            due("gives 0", x.counted(1, 201, 2), 0);
        });
        edge("NONE (3: -1, too)", () -> {
            ReelBack x = town();
            due("no COST", x.counted(0, 200, 0), NONE);
            wage(x, 0, 0, 5);
            for (int what = 0; what <= 3; what++) {
                due("COST 1 is none", x.counted(1, 200, what), NONE);
                due("COST -1", x.counted(-1, 200, what), NONE);
                due("k -1", x.counted(0, -1, what), NONE);
                due("k 3600", x.counted(0, 3600, what), NONE);
            }
            due("what 4", x.counted(0, 200, 4), NONE);
            due("what -1", x.counted(0, 200, -1), NONE);
            due("k 3599", x.counted(0, 3599, 0), 5);
            due("k 0", x.counted(0, 0, 0), 5);
        });
    }

    private static void base() {
        promise(21);
        edge("BASE (what 0), DUE (1) of a FILM in a LAND AS KNOWN on k", () -> {
            ReelBack x = town();
            wage(x, 0, 0, 70);
            wage(x, 0, 1, 900);
            wage(x, 1, 0, 3000);
            due("BASE", x.base(0, 0, -1, 200, 0), 70);
            due("DUE", x.base(0, 0, -1, 200, 1), 21);
            due("where nothing was spent", x.base(0, 5, -1, 200, 0), 0);
            due("where nothing was spent", x.base(0, 5, -1, 200, 1), 0);
            x.days(1);
            x.audit(0, 60);
            due("as known then", x.base(0, 0, -1, 201, 0), 10);
            due("as known ahead", x.base(0, 0, -1, 200, 0), 70);
            due("DUE as known ahead", x.base(0, 0, -1, 200, 1), 21);
            due("DUE as known then", x.base(0, 0, -1, 201, 1), 3);
        });
        edge("of an EPISODE (-1: all; DUE: -1 alone)", () -> {
            ReelBack x = town();
            draft(x, 0, 0, 0, 0);
            for (int episode = 0; episode <= 2; episode++) {
                x.set(1, episode);
                x.cost(1, 1 + episode);
                x.cost(1, 10 + episode);
            }
            int[] want = {11, 13, 15};
            for (int episode = 0; episode <= 2; episode++) {
                due("EPISODE " + episode, x.base(0, 0, episode, 200, 0), want[episode]);
                due("DUE of an EPISODE", x.base(0, 0, episode, 200, 1), NONE);
            }
            due("all", x.base(0, 0, -1, 200, 0), 39);
            due("EPISODE 3 of three", x.base(0, 0, 3, 200, 0), NONE);
            due("EPISODE 1 of one", x.base(1, 0, 1, 200, 0), NONE);
            due("EPISODE -2", x.base(0, 0, -2, 200, 0), NONE);
        });
        edge("NONE", () -> {
            ReelBack x = town();
            due("FILM 2 is none", x.base(2, 0, -1, 200, 0), NONE);
            due("FILM -1", x.base(-1, 0, -1, 200, 0), NONE);
            due("FILM 20", x.base(20, 0, -1, 200, 1), NONE);
            due("k -1", x.base(0, 0, -1, -1, 0), NONE);
            due("k 3600", x.base(0, 0, -1, 3600, 1), NONE);
            due("what 2", x.base(0, 0, -1, 200, 2), NONE);
            due("what -1", x.base(0, 0, -1, 200, -1), NONE);
            due("k 3599", x.base(0, 0, -1, 3599, 0), 0);
        });
    }
}
