/** Terms 6, promises 46 to 49: acts of costs, counts. */
final class BodyEdges extends Edges {
    static void all() {
        chapter("Terms 6");
        termsOfActs();
        termsOfBodies();
        termsOfTrace();
        act();
        trace();
        taken();
        count();
    }

    /** COSTS 0 to 6 of 100 to 700 coins: an empty place first, then one of each KIND 1 to 6, of like number. */
    private static ReelBack kinds() {
        ReelBack x = studio();
        draft(x, 0, 0, 0, 0);
        x.cost(1, 100);
        for (int kind = 1; kind <= 6; kind++) {
            x.cost(kind, 100 * kind + 100);
        }
        return x;
    }

    private static void ran(ReelBack x, int... bodies) {
        for (int i = 0; i < bodies.length; i++) {
            due("body " + i, x.trace(i), bodies[i]);
        }
        due("no more", x.trace(bodies.length), NONE);
    }

    private static void termsOfActs() {
        edge("ACTS of COSTS, with x (wrapping): 0 spends, 1 counts, 2 proves; c COINS, n its number", () -> {
            ReelBack x = kinds();
            due("spends", x.act(2, 0, 7), 7 + 300 - 4);
            due("counts", x.act(2, 1, 7), (7 + 300 - 4) * 2);
            due("proves", x.act(2, 2, 7), (7 + 300 - 4) * 2 - 2);
            due("x MAX", x.act(2, 0, MAX), MIN + 295);
            due("x MIN", x.act(2, 0, MIN), MIN + 296);
            due("counts MAX", x.act(2, 1, MAX), (MIN + 295) * 2);
            due("proves of COST 0", x.act(0, 2, 7), (7 + 100) * 2 ^ 9);
            x.days(1);
            x.audit(2, 50);
            due("COINS as known TODAY", x.act(2, 0, 7), 7 + 250 - 4);
        });
    }

    private static void bodies(int cost, int act, int x, int want, int... bodies) {
        ReelBack r = kinds();
        due("act " + act + " of KIND " + cost, r.act(cost, act, x), want);
        ran(r, bodies);
    }

    private static void termsOfBodies() {
        edge("BODIES: COST: 10 spends: x + c. 11 counts: spends(x) * 2. 12 proves: counts(x) - n.", () -> {
            bodies(4, 0, 7, 507, 10);
            bodies(2, 1, 7, 606, 11, 30, 10);
            bodies(2, 2, 7, 604, 12, 11, 30, 10);
            bodies(2, 1, 1 << 30, -2147483648 + 592, 11, 30, 10);
        });
        edge("WAGE: 20 counts: super.counts(x) ^ 9.", () -> {
            bodies(1, 0, 7, 207, 10);
            bodies(1, 1, 7, 414 ^ 9, 20, 11, 10);
            bodies(1, 2, 7, (414 ^ 9) - 1, 12, 20, 11, 10);
            bodies(1, 1, -205, -10 ^ 9, 20, 11, 10);
            bodies(1, 1, -196, 8 ^ 9, 20, 11, 10);
        });
        edge("GOODS: 30 spends: super.spends(x) - 4.", () -> {
            bodies(2, 0, 7, 303, 30, 10);
            bodies(2, 0, MIN, MIN + 296, 30, 10);
        });
        edge("RENT: 40 proves: super.proves(x) + counts(1).", () -> {
            bodies(3, 0, 7, 403, 30, 10);
            bodies(3, 1, 7, 806, 11, 30, 10);
            bodies(3, 2, 7, 806 - 3 + 794, 40, 12, 11, 30, 10, 11, 30, 10);
        });
        edge("FEE: 50 counts: -super.counts(x).", () -> {
            bodies(4, 1, 7, -1014, 50, 11, 10);
            bodies(4, 2, 7, -1018, 12, 50, 11, 10);
            bodies(4, 1, (1 << 30) - 500, MIN, 50, 11, 10);
        });
        edge("LOT: 60 spends: super.spends(x + 1). 61 proves: super.proves(x) * 3.", () -> {
            bodies(5, 0, 7, 604, 60, 30, 10);
            bodies(5, 1, 7, 1208, 11, 60, 30, 10);
            bodies(5, 2, 7, 1203 * 3, 61, 12, 11, 60, 30, 10);
            bodies(5, 0, MAX, MIN + 596, 60, 30, 10);
        });
        edge("CARRIAGE: 70 counts: super.counts(x) - spends(2).", () -> {
            bodies(6, 0, 7, 707, 10);
            bodies(6, 1, 7, -1414 - 702, 70, 50, 11, 10, 10);
            bodies(6, 2, 7, -1414 - 702 - 6, 12, 70, 50, 11, 10, 10);
        });
        edge("spends(..) and so on: the body of its KIND, or, if that has none, of the next KIND above that has one; "
            + "super.spends(..): so from the KIND above the body's on.", () -> {
            // RENT has no spends: that of GOODS; CARRIAGE has none, FEE has none: that of COST
            bodies(3, 0, 0, 396, 30, 10);
            bodies(6, 0, 0, 700, 10);
            // what COST's bodies call is that of the KIND: counts of CARRIAGE, spends of LOT
            bodies(6, 2, 0, -1400 - 702 - 6, 12, 70, 50, 11, 10, 10);
            bodies(5, 1, 0, 1194, 11, 60, 30, 10);
        });
    }

    private static void termsOfTrace() {
        edge("THE TRACE: the numbers of the bodies that ran in the latest act() that was not refused, as they began; the first "
            + "24 are kept.", () -> {
            ReelBack x = kinds();
            x.act(3, 2, 7);
            ran(x, 40, 12, 11, 30, 10, 11, 30, 10);
            x.act(7, 0, 7);
            x.act(-1, 0, 7);
            x.act(0, 3, 7);
            x.act(0, -1, 7);
            ran(x, 40, 12, 11, 30, 10, 11, 30, 10);
            x.act(4, 0, 7);
            ran(x, 10);
            for (int i = 1; i < 30; i++) {
                due("none of the one ahead", x.trace(i), NONE);
            }
        });
    }

    // ---- promises

    private static void act() {
        promise(46);
        edge("An ACT of a COST with x.", () -> {
            ReelBack x = kinds();
            due("spends", x.act(4, 0, -500), 0);
            due("counts", x.act(4, 1, -501), 2);
            due("proves", x.act(4, 2, -501), -2);
        });
        edge("NO_VALUE: no such COST, act (0 .. 2).", () -> {
            ReelBack x = kinds();
            due("COST 7", x.act(7, 0, 0), NO_VALUE);
            due("COST -1", x.act(-1, 0, 0), NO_VALUE);
            due("COST 150", x.act(150, 0, 0), NO_VALUE);
            due("act -1", x.act(0, -1, 0), NO_VALUE);
            due("act 3", x.act(0, 3, 0), NO_VALUE);
            due("no COSTS", new ReelBack().act(0, 0, 0), NO_VALUE);
        });
        edge("(What it answers may be any number.)", () -> {
            ReelBack x = kinds();
            due("NO_VALUE", x.act(4, 0, NO_VALUE - 500), NO_VALUE);
            ran(x, 10);
            due("MIN", x.act(4, 0, MIN - 500), MIN);
            due("MAX", x.act(4, 0, MAX - 500), MAX);
            due("NONE", x.act(4, 0, -501), -1);
        });
    }

    private static void trace() {
        promise(47);
        edge("THE TRACE's i-th body.", () -> {
            ReelBack x = kinds();
            x.act(5, 2, 7);
            ran(x, 61, 12, 11, 60, 30, 10);
        });
        edge("NONE.", () -> {
            ReelBack x = kinds();
            due("before any", x.trace(0), NONE);
            x.act(9, 0, 0);
            due("one was refused", x.trace(0), NONE);
            x.act(0, 0, 0);
            due("-1", x.trace(-1), NONE);
            due("1 of one", x.trace(1), NONE);
            due("24", x.trace(24), NONE);
            due("MAX", x.trace(MAX), NONE);
            due("0 of one", x.trace(0), 10);
        });
    }

    private static void taken() {
        promise(48);
        edge("A COST taken for one of KIND k (0 .. 6), or one under that: its KIND.", () -> {
            ReelBack x = kinds();
            for (int kind = 1; kind <= 6; kind++) {
                due("for COST", x.taken(kind, 0), kind);
                due("for its own", x.taken(kind, kind), kind);
            }
            due("RENT for GOODS", x.taken(3, 2), 3);
            due("LOT for GOODS", x.taken(5, 2), 5);
            due("CARRIAGE for FEE", x.taken(6, 4), 6);
        });
        edge("NONE, CAST.", () -> {
            ReelBack x = kinds();
            due("k -1", x.taken(0, -1), NONE);
            due("k 7", x.taken(0, 7), NONE);
            due("COST 7 is none", x.taken(7, 0), NONE);
            due("COST -1", x.taken(-1, 0), NONE);
            due("GOODS for RENT", x.taken(2, 3), CAST);
            due("GOODS for LOT", x.taken(2, 5), CAST);
            due("RENT for LOT", x.taken(3, 5), CAST);
            due("LOT for RENT", x.taken(5, 3), CAST);
            due("FEE for CARRIAGE", x.taken(4, 6), CAST);
            due("CARRIAGE for GOODS", x.taken(6, 2), CAST);
            due("WAGE for FEE", x.taken(1, 4), CAST);
            due("no COSTS", new ReelBack().taken(0, 0), NONE);
        });
    }

    private static void count() {
        promise(49);
        edge("How many: 0 HOUSES, 1 FILMS, 2 PERSONS, 3 DAY, 4 COSTS, 5 STAYS, 6 LIKES, 7 TEXTS, 8 bytes on THE TAPE, "
            + "9 CERTIFICATES, 10 LOANS, 11 COSTS that are AUDITED, 12 coins that HOUSES got, 13 that LENDERS got.", () -> {
            ReelBack x = kinds();
            x.person(0);
            for (int i = 0; i < 4; i++) {
                x.days(1);
                x.stay(0, 0, i, i);
                x.stay(1, 0, i, i);
                make(x, 1, 3000, "1");
            }
            for (int i = 0; i < 6; i++) {
                x.like(0, 0, 0, 5);
            }
            feed(x, "k+k+k");
            x.ask(0, 0);
            x.ask(0, 1);
            x.loan(0, 0, 10, 0);
            x.loan(0, 1, 1, 0);
            x.loan(1, 1, 1, 0);
            x.audit(0, 50);
            x.audit(1, 0);
            // 100 - 50 + 200 + .. + 700 = 2750: DUE 825, ADVANCE 412
            x.advance(0);
            int[] want = {2, 1, 3, 4, 7, 8, 6, 4, 5, 2, 3, 2, 401, 11};
            for (int what = 0; what < want.length; what++) {
                due("what " + what, x.count(what), want[what]);
            }
            x.sell(0, 1);
            x.settle(0);
            due("of two HOUSES", x.count(12), 401 + 413);
        });
        edge("NONE.", () -> {
            ReelBack x = kinds();
            due("what -1", x.count(-1), NONE);
            due("what 14", x.count(14), NONE);
            due("what MIN", x.count(MIN), NONE);
            due("what MAX", x.count(MAX), NONE);
        });
    }
}
