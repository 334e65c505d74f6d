import java.math.BigInteger;

/** Terms 5, promises 35 to 45: joint ones, gains, audits, other rules tried. */
final class TreatyEdges extends Edges {
    static void all() {
        chapter("Terms 5");
        termsOfTreaties();
        termsOfLeastParts();
        termsOfBestWays();
        termsOfGain();
        termsOfAudits();
        termsOfDrawing();
        termsOfBound();
        termsOfTrying();
        move();
        split();
        gain();
        audit();
        draw();
        bound();
        tryText();
        twice();
    }

    /** A studio whose LANDS 0 to 5 give so many hundredths. */
    private static ReelBack rates(int... hundredths) {
        ReelBack x = studio();
        for (int land = 0; land < hundredths.length; land++) {
            make(x, 10 * land + 1, 0, String.valueOf(hundredths[land]));
        }
        return x;
    }

    private static void moves(ReelBack x, int lands, int... coins) {
        for (int i = 0; i < coins.length; i++) {
            x.move(coins[i], lands);
        }
    }

    private static void way(ReelBack x, int... lands) {
        for (int i = 0; i < lands.length; i++) {
            due("LAND of " + i, x.moved(i), lands[i]);
        }
        due("no more", x.moved(lands.length), NONE);
    }

    // ---- terms

    private static void termsOfTreaties() {
        edge("A TREATY of two or three LANDS (told as bits)", () -> {
            for (int lands = -3; lands <= 130; lands++) {
                ReelBack x = rates(10, 20, 30, 40, 50, 60);
                x.move(1000, 63);
                int n = Integer.bitCount(lands);
                boolean is = lands >= 1 && lands <= 63 && (n == 2 || n == 3);
                int dearest = 31 - Integer.numberOfLeadingZeros(lands);
                due("LANDS " + lands, x.split(0, lands, 0), is ? 100 * (dearest + 1) : NONE);
                due("its LAND", x.moved(0), is ? dearest : NONE);
            }
            ReelBack y = rates(10, 20);
            y.move(1000, 63);
            due("LANDS MIN", y.split(0, MIN, 0), NONE);
            due("LANDS MIN and 3", y.split(0, MIN | 3, 0), NONE);
        });
        edge("SPLIT: movable COSTS told (1 .. 9): coins (1 .. 9999) and in which LANDS (bits) each can be spent", () -> {
            ReelBack x = rates(10, 20);
            due("none told", x.split(0, 3, 0), STATE);
            due("coins 0", x.move(0, 3), NONE);
            due("coins 10000", x.move(10000, 3), NONE);
            for (int i = 1; i <= 9; i++) {
                due("move", x.move(i == 9 ? 9999 : i, 3), i);
            }
            due("the tenth", x.move(1, 3), FULL);
            due("nine of them", x.split(0, 3, 0), (36 + 9999) * 20 / 100);
            way(x, 1, 1, 1, 1, 1, 1, 1, 1, 1);
            ReelBack y = rates(10, 20, 30);
            y.move(100, 1);
            y.move(100, 2);
            y.move(100, 4);
            due("one LAND for each", y.split(0, 7, 0), 60);
            way(y, 0, 1, 2);
        });
    }

    /** What is got back of these coins, that can be spent in any LAND, by RATES 10, 20, 30. */
    private static void least(int lands, int least, int want, int... coins) {
        ReelBack x = rates(10, 20, 30);
        moves(x, 63, coins);
        due("least " + least, x.split(0, lands, least), want);
    }

    private static void termsOfLeastParts() {
        edge("with the least part of each (0 .. 50 hundredths, one for all)", () -> {
            least(3, -1, NONE, 100, 100);
            least(3, 51, NONE, 100, 100);
            least(3, 0, 40, 100, 100);
            least(3, 1, 30, 100, 100);
            least(3, 50, 30, 100, 100);
            least(7, 33, 60, 100, 100, 100);
            least(7, 34, NOT, 100, 100, 100);
            least(7, 50, NOT, 100, 100, 100, 100);
        });
        edge("the way (one LAND for each) by which each LAND of the TREATY has its least part of all coins", () -> {
            least(3, 50, NOT, 1, 2);
            least(3, 33, 0, 1, 2);
            least(3, 34, NOT, 1, 2);
            least(3, 50, 150, 500, 500);
            least(3, 50, NOT, 501, 499);
            least(3, 49, 149, 501, 499);
            least(3, 50, 210, 700, 300, 400);
            least(5, 50, 200, 500, 500);
            least(6, 25, 110, 100, 300);
            least(6, 26, NOT, 100, 300);
            least(7, 0, 120, 100, 300);
            least(7, 1, NOT, 100, 300);
            least(3, 1, NOT, 9999);
            least(3, 0, 1999, 9999);
        });
        edge("none is spent elsewhere", () -> {
            ReelBack x = rates(10, 20, 30, 40, 50, 60);
            x.move(100, 32 | 1);
            x.move(100, 32 | 2);
            due("LAND 5 is not of the TREATY", x.split(0, 3, 0), 30);
            way(x, 0, 1);
            x.move(100, 1);
            x.move(100, 4);
            due("one can't be spent in it", x.split(0, 3, 0), NOT);
            due("all can be spent in it", x.split(0, 5, 0), 40);
        });
        edge("NOT: there is none", () -> {
            ReelBack x = rates(10, 20);
            x.move(100, 1);
            due("no least part for LAND 1", x.split(0, 3, 1), NOT);
            due("no LAND", x.split(0, 6, 0), NOT);
            due("stays", x.split(0, 3, 0), 10);
        });
    }

    private static void termsOfBestWays() {
        edge("and what is got back together, RATE of each LAND (TODAY, AS KNOWN TODAY, of a FILM told) times its coins / 100 "
            + "(cut), is greatest", () -> {
            ReelBack x = rates(100, 99);
            moves(x, 3, 99);
            due("RATE 100 of 99", x.split(0, 3, 0), 99);
            ReelBack y = rates(10, 10);
            moves(y, 3, 5, 5);
            due("5 and 5 are cut to nothing, 10 gives 1", y.split(0, 3, 0), 1);
            way(y, 0, 0);
            ReelBack w = rates(10, 20, 15);
            moves(w, 7, 4, 5, 11);
            due("20 at 20 give 4, parts of them less", w.split(0, 7, 0), 4);
            ReelBack z = rates(10, 20);
            make(z, 1, 5, "n*25");
            z.film(0, 1);
            moves(z, 3, 100);
            due("TODAY", z.split(0, 3, 0), 20);
            z.days(5);
            moves(z, 3, 100);
            due("of another FILM", z.split(1, 3, 0), 25);
            moves(z, 3, 100);
            due("of the FILM", z.split(0, 3, 0), 50);
            moves(z, 1, 9999);
            due("LAND 0 alone", z.split(0, 3, 0), 4999);
        });
        edge("of several the first (COST by COST, the lesser LAND)", () -> {
            ReelBack x = rates(30, 30, 30);
            moves(x, 7, 100, 100, 100);
            due("all are like", x.split(0, 7, 0), 90);
            way(x, 0, 0, 0);
            moves(x, 7, 100, 100, 100);
            due("each has one", x.split(0, 7, 33), 90);
            way(x, 0, 1, 2);
            moves(x, 3, 100, 100, 100);
            due("LAND 1 has one", x.split(0, 3, 20), 90);
            way(x, 0, 0, 1);
            x.move(100, 6);
            x.move(100, 5);
            due("the lesser of each", x.split(0, 6, 0), 60);
            way(x, 1, 2);
        });
        edge("WITHOUT: the same without the least parts: what these cost", () -> {
            ReelBack x = rates(10, 25);
            due("before any", x.without(), NONE);
            moves(x, 3, 100, 60);
            due("40 without", x.split(0, 3, 30), 31);
            due("cost", x.without(), 9);
            moves(x, 3, 100, 60);
            x.split(0, 3, 0);
            due("cost nothing", x.without(), 0);
            moves(x, 3, 9999, 1);
            due("no way", x.split(0, 3, 50), NOT);
            due("of the one that found a way", x.without(), 0);
            x.split(0, 3, 0);
            x.move(9999, 3);
            x.move(9999, 3);
            due("999 and 2499", x.split(0, 3, 50), 3498);
            due("19998 at 25 give 4999", x.without(), 4999 - 3498);
        });
    }

    private static void termsOfGain() {
        edge("GAIN of a LAND in a YEAR AS KNOWN TODAY: what its FILMS spent there (BASE of all FILMS, COSTS of that YEAR "
            + "alone)", () -> {
            ReelBack x = rates(0, 0);
            x.film(0, 1);
            years(x, 2);
            int[] days = {359, 360, 719, 720};
            for (int i = 0; i < 4; i++) {
                draft(x, i % 2, 0, days[i], 0);
                x.cost(1, 1 << i);
            }
            wage(x, 0, 1, 1000);
            due("YEAR 0", x.gain(0, 0, 100100, 100, 0), 1);
            due("YEAR 1", x.gain(0, 1, 100100, 100, 0), 6);
            due("YEAR 2", x.gain(0, 2, 100100, 100, 0), 8);
            due("YEAR 3", x.gain(0, 3, 100100, 100, 0), 0);
            due("LAND 1 in YEAR 2", x.gain(1, 2, 100100, 100, 0), 1000);
            x.days(1);
            x.audit(2, 3);
            due("AS KNOWN TODAY", x.gain(0, 1, 100100, 100, 0), 3);
            ReelBack y = rates(10);
            for (int film = 1; film < 20; film++) {
                y.film(0, 1);
            }
            for (int film = 0; film < 20; film++) {
                wage(y, film, 0, 100);
            }
            due("of 20 FILMS", y.gain(0, 0, 100100, 100, 0), 2000 - 200);
        });
        edge("times what would not have come otherwise (hundredths from a to b, told with the question) / 100 (cut), that "
            + "times a told tax (hundredths) / 100 (cut)", () -> {
            ReelBack x = rates(0);
            wage(x, 0, 0, 199);
            // 199 * 50 / 100 = 99, * 67 / 100 = 66; uncut 66.67
            due("by a", x.gain(0, 0, 50051, 67, 0), 66);
            // 199 * 51 / 100 = 101, * 67 / 100 = 67
            due("by b", x.gain(0, 0, 50051, 67, 1), 67);
            // 199 * 53 / 100 = 105, * 99 / 100 = 103; uncut 104.4
            due("cut twice", x.gain(0, 0, 53053, 99, 0), 103);
            due("a 0", x.gain(0, 0, 100, 100, 0), 0);
            due("b 100", x.gain(0, 0, 100, 100, 1), 199);
            due("tax 0", x.gain(0, 0, 100100, 0, 1), 0);
            ReelBack y = rates(0);
            y.coin(0, 0, 99999);
            wages(y, 0, 0, 99999, 150);
            due("1499970000 * 100 is no int", y.gain(0, 0, 100100, 100, 1), 1499970000);
        });
        edge("less DUE of these at RATE (BASE times RATE of the YEAR's last DAY / 100, cut): at least, at most", () -> {
            ReelBack x = studio();
            x.film(0, 1);
            wage(x, 0, 0, 103);
            wage(x, 1, 0, 109);
            due("30.9 and 32.7", x.gain(0, 0, 0, 0, 0), -62);
            make(x, 1, 359, "n*10");
            due("of its last DAY: 20.6 and 10.9", x.gain(0, 0, 0, 0, 0), -30);
            make(x, 1, 360, "100");
            due("not of the next YEAR's first", x.gain(0, 0, 0, 0, 1), -30);
            make(x, 2, 0, "99");
            make(x, 3, 0, "0");
            due("whatever NEED and TOP are", x.gain(0, 0, 0, 0, 0), -30);
            due("at least", x.gain(0, 0, 10050, 50, 0), 10 - 30);
            due("at most", x.gain(0, 0, 10050, 50, 1), 53 - 30);
            ReelBack w = studio();
            years(w, 4);
            wage(w, 0, 0, 100);
            make(w, 1, 1799, "10");
            due("of YEAR 4's last DAY", w.gain(0, 4, 0, 0, 0), -10);
            make(w, 1, 1800, "20");
            due("not of YEAR 5's first", w.gain(0, 4, 0, 0, 0), -10);
            ReelBack y = rates(100);
            y.coin(0, 0, 99999);
            wages(y, 0, 0, 99999, 150);
            due("the least that can be", y.gain(0, 0, 0, 0, 0), -1499970000);
        });
    }

    private static void termsOfAudits() {
        edge("AUDITED COSTS (by call): wrong or not, so many coins too much", () -> {
            ReelBack x = studio();
            wages(x, 0, 0, 100, 3);
            x.audit(0, 0);
            x.audit(1, 99);
            due("not wrong", x.of(0, 9), 1);
            due("wrong", x.of(1, 9), 2);
            due("not AUDITED", x.of(2, 9), 0);
            due("COINS", x.of(0, 4), 100);
            due("COINS", x.of(1, 4), 1);
            due("how many", x.count(11), 2);
        });
        edge("(late finds: COINS are less by these then; KNOWN from TODAY on, AS KNOWN ahead as before)", () -> {
            ReelBack x = studio();
            wage(x, 0, 0, 100);
            make(x, 0, 0, "c");
            x.days(9);
            x.audit(0, 30);
            due("FAIR", x.counted(0, 9, 0), 70);
            due("FAIR as known ahead", x.counted(0, 8, 0), 100);
            due("COUNTED: 70 of 100", x.counted(0, 9, 2), 49);
            due("COUNTED as known ahead", x.counted(0, 8, 2), 100);
            due("BASE", x.base(0, 0, -1, 9, 0), 49);
            due("BASE as known ahead", x.base(0, 0, -1, 8, 0), 100);
            due("spends", x.act(0, 0, 0), 70);
            x.days(1);
            due("COINS on a later DAY", x.of(0, 4), 70);
        });
    }

    private static void termsOfDrawing() {
        edge("DRAWN by z: z becomes z * 1103515245 + 12345 (an int)", () -> {
            ReelBack x = studio();
            wages(x, 0, 0, 5, 97);
            int[] seeds = {0, 1, -1, MIN, MAX, 123456789};
            for (int i = 0; i < seeds.length; i++) {
                x.lots(seeds[i]);
                int z = seeds[i];
                for (int n = 0; n < 5; n++) {
                    z = z * 1103515245 + 12345;
                    due("drawn from " + seeds[i], x.draw(0), (z >>> 8) % 97);
                }
            }
        });
        edge("of m COSTS of a FILM that were not AUDITED the ((z >>> 8) % m)-th", () -> {
            ReelBack x = studio();
            x.film(0, 1);
            wages(x, 1, 0, 5, 2);
            wages(x, 0, 0, 5, 3);
            wages(x, 1, 0, 5, 2);
            int[] mine = {2, 3, 4};
            // 0 becomes 12345, >>> 8 is 48: of three the first, of two the first, of one the only one
            x.lots(0);
            due("of three", x.draw(0), mine[48 % 3]);
            x.audit(2, 1);
            x.lots(0);
            due("of two", x.draw(0), mine[1]);
            x.lots(1);
            due("of two: 4310654", x.draw(0), mine[1]);
            x.lots(-1);
            // -1 becomes -1103502900, >>> 8 is 12466657, odd
            due("of two: 12466657", x.draw(0), mine[2]);
            x.audit(3, 0);
            due("of one", x.draw(0), 4);
            int other = x.draw(1);
            due("of the other FILM", other < 2 || other > 4 ? 1 : 0, 1);
        });
    }

    private static BigInteger choices(int n, int k) {
        BigInteger ways = k < 0 || k > n ? BigInteger.ZERO : BigInteger.ONE;
        for (int i = 1; i <= k && k <= n; i++) {
            ways = ways.multiply(BigInteger.valueOf(n - k + i)).divide(BigInteger.valueOf(i));
        }
        return ways;
    }

    private static int greatestWrong(int n, int c, int w) {
        for (int wrong = n - c + w; wrong > w; wrong--) {
            BigInteger ways = BigInteger.ZERO;
            for (int i = 0; i <= w; i++) {
                ways = ways.add(choices(wrong, i).multiply(choices(n - wrong, c - i)));
            }
            if (ways.multiply(BigInteger.valueOf(20)).compareTo(choices(n, c)) >= 0) {
                return wrong;
            }
        }
        return w;
    }

    /** BOUND of n COSTS, of which c are AUDITED one by one; each of the first w is wrong. */
    private static int boundOf(int n, int c, int w) {
        ReelBack x = studio();
        wages(x, 0, 0, 5, n);
        for (int i = 0; i < c; i++) {
            x.audit(i, i < w ? 1 : 0);
        }
        return x.bound(0);
    }

    private static void termsOfBound() {
        edge("BOUND of a FILM: of n COSTS (30 at most, else BIG)", () -> {
            due("none", boundOf(0, 0, 0), 0);
            due("one", boundOf(1, 0, 0), 1);
            due("30", boundOf(30, 0, 0), 30);
            due("31", boundOf(31, 0, 0), BIG);
            due("31, all AUDITED", boundOf(31, 31, 0), BIG);
            due("150", boundOf(150, 1, 1), BIG);
            ReelBack x = studio();
            x.film(0, 1);
            wages(x, 1, 0, 5, 31);
            wages(x, 0, 0, 5, 30);
            due("30 beside another FILM's 31", x.bound(0), 30);
            due("another FILM's 31", x.bound(1), BIG);
        });
        edge("c AUDITED, w wrong: the greatest number W (w .. n - c + w) such that of c drawn w or fewer are wrong with a "
            + "chance of 5 of 100 at least", () -> {
            due("one of 20: W 19 has just 5 of 100", boundOf(20, 1, 0), 19);
            due("one of 21: W 20 has 1 of 21", boundOf(21, 1, 0), 19);
            due("one of 19: W 18 has 1 of 19", boundOf(19, 1, 0), 18);
            due("one of two, wrong: n - c + w", boundOf(2, 1, 1), 2);
            due("all AUDITED, right", boundOf(30, 30, 0), 0);
            due("all AUDITED, wrong", boundOf(30, 30, 30), 30);
            due("all but one AUDITED: W 1 has just 5 of 100", boundOf(20, 19, 0), 1);
            due("all but one AUDITED: W 1 has 1 of 21", boundOf(21, 20, 0), 0);
            for (int n = 0; n <= 30; n++) {
                for (int c = 1; c <= n; c++) {
                    for (int w = 0; w <= c; w++) {
                        due("n " + n + ", c " + c + ", w " + w, boundOf(n, c, w), greatestWrong(n, c, w));
                    }
                }
            }
        });
        edge("(c 0: n)", () -> {
            for (int n = 0; n <= 30; n++) {
                due("n " + n, boundOf(n, 0, 0), n);
            }
        });
    }

    private static void termsOfTrying() {
        edge("TRIED: a TEXT of USE 0 or 1 in place of that in force, of its LAND, for all FILMS: DUE of all together AS KNOWN "
            + "TODAY", () -> {
            for (int land = 0; land <= 5; land++) {
                ReelBack x = studio();
                x.film(0, 1);
                wage(x, 0, land, 1000);
                wage(x, 1, land, 503);
                wage(x, 1, (land + 1) % 6, 9000);
                make(x, 10 * land, 3000, "50");
                make(x, 10 * land + 1, 3000, "n*10");
                make(x, 10 * land + 2, 0, "0");
                make(x, 10 * land + 3, 0, "9999");
                make(x, 10 * land + 4, 0, "1");
                due("COUNTS: 150 and 75.3", x.tryText(0), 225);
                due("RATE: 200 and 50.3", x.tryText(1), 250);
                for (int text = 2; text <= 4; text++) {
                    due("USE " + text, x.tryText(text), NONE);
                }
                make(x, 10 * land + 1, 0, "10");
                due("in place of that in force", x.tryText(1), 250);
                due("beside that in force", x.tryText(0), 75);
                make(x, 10 * land + 3, 0, "60");
                due("TOP as it is", x.tryText(1), 110);
                x.days(1);
                x.audit(0, 900);
                due("AS KNOWN TODAY: 20 and 50.3", x.tryText(1), 70);
                due("all as before", x.base(0, land, -1, 1, 1), 10);
            }
        });
    }

    // ---- promises

    private static void move() {
        promise(35);
        edge("A movable COST: how many", () -> {
            ReelBack x = new ReelBack();
            due("the first", x.move(1, 1), 1);
            due("the second", x.move(9999, 63), 2);
        });
        edge("NONE (coins 1 .. 9999; LANDS 1 .. 63), FULL: 9", () -> {
            ReelBack x = new ReelBack();
            int[] coins = {0, 10000, -1, MIN, MAX};
            int[] lands = {0, 64, -1, MIN, MAX};
            for (int i = 0; i < 5; i++) {
                due("coins " + coins[i], x.move(coins[i], 1), NONE);
                due("LANDS " + lands[i], x.move(1, lands[i]), NONE);
            }
            for (int i = 1; i <= 9; i++) {
                due("move", x.move(i, i), i);
            }
            due("the tenth", x.move(1, 1), FULL);
            due("coins 0 though full", x.move(0, 1), NONE);
            due("LANDS 64 though full", x.move(1, 64), NONE);
        });
    }

    private static void split() {
        promise(36);
        edge("SPLIT of a FILM by a TREATY (LANDS as bits, two or three; the least part 0 .. 50): what is got back; the list is "
            + "empty then", () -> {
            ReelBack x = rates(10, 20);
            x.move(100, 3);
            due("got back", x.split(0, 3, 0), 20);
            due("empty then", x.split(0, 3, 0), STATE);
            due("the first again", x.move(100, 3), 1);
            ReelBack y = rates(0, 0);
            y.move(100, 3);
            due("nothing is got back", y.split(0, 3, 0), 0);
            due("empty then", y.split(0, 3, 0), STATE);
        });
        edge("NONE; STATE: it is empty; NOT (the list stays)", () -> {
            ReelBack x = rates(10, 20);
            due("empty", x.split(0, 3, 0), STATE);
            int[] lands = {0, 1, 32, 15, 63, 64, 65, -1, MIN, MAX};
            for (int i = 0; i < lands.length; i++) {
                due("LANDS " + lands[i] + " though empty", x.split(0, lands[i], 0), NONE);
            }
            due("FILM 1 is none though empty", x.split(1, 3, 0), NONE);
            due("FILM -1", x.split(-1, 3, 0), NONE);
            due("least 51 though empty", x.split(0, 3, 51), NONE);
            due("least -1 though empty", x.split(0, 3, -1), NONE);
            x.move(100, 3);
            x.move(90, 3);
            due("no way", x.split(0, 3, 50), NOT);
            due("stays", x.move(1, 1), 3);
            due("stays", x.split(0, 3, 0), 38);
        });
        promise(37);
        edge("The LAND of the i-th in the latest split() that found a way", () -> {
            ReelBack x = rates(10, 20, 30, 40, 50, 60);
            x.move(1, 32);
            x.move(1, 1);
            x.split(0, 33, 0);
            way(x, 5, 0);
            x.move(1, 4);
            due("no way", x.split(0, 3, 0), NOT);
            way(x, 5, 0);
            x.split(0, 5, 0);
            way(x, 2);
        });
        edge("NONE", () -> {
            ReelBack x = rates(10, 20);
            due("before any", x.moved(0), NONE);
            x.move(1, 1);
            due("before any", x.moved(0), NONE);
            x.split(0, 3, 0);
            due("-1", x.moved(-1), NONE);
            due("1 of one", x.moved(1), NONE);
            moves(x, 3, 1, 2, 3, 4, 5, 6, 7, 8, 9);
            x.split(0, 3, 0);
            due("8 of nine", x.moved(8), 1);
            due("9 of nine", x.moved(9), NONE);
        });
        promise(38);
        edge("What the least parts cost by it: WITHOUT less SPLIT", () -> {
            ReelBack x = rates(10, 20);
            moves(x, 3, 100, 100);
            due("got back", x.split(0, 3, 50), 30);
            due("cost", x.without(), 10);
        });
        edge("NONE: before any", () -> {
            ReelBack x = rates(10, 20);
            due("before any", x.without(), NONE);
            x.split(0, 3, 0);
            x.move(1, 4);
            x.split(0, 3, 0);
            due("none found a way", x.without(), NONE);
            x.split(0, 6, 0);
            due("one found a way", x.without(), 0);
        });
    }

    private static void gain() {
        promise(39);
        edge("GAIN of a LAND in a YEAR, by hundredths from a to b and a tax (ab: 1000 times a, and b; 0 .. 100 each; tax "
            + "0 .. 100): at least (what 0), at most (1)", () -> {
            ReelBack x = rates(0);
            wage(x, 0, 0, 1000);
            for (int a = 0; a <= 100; a += 25) {
                for (int b = 0; b <= 100; b += 25) {
                    due("by a", x.gain(0, 0, 1000 * a + b, 100, 0), 10 * a);
                    due("by b", x.gain(0, 0, 1000 * a + b, 100, 1), 10 * b);
                }
            }
            due("tax 1", x.gain(0, 0, 100100, 1, 1), 10);
            due("YEAR 9", x.gain(0, 9, 100100, 100, 1), 0);
        });
        edge("NO_VALUE: NONE", () -> {
            ReelBack x = studio();
            int[] ab = {-1, -1000, -101000, 101, 999, 100101, 101000, 101100, 200000, MIN, MAX};
            for (int i = 0; i < ab.length; i++) {
                due("ab " + ab[i], x.gain(0, 0, ab[i], 0, 0), NO_VALUE);
            }
            due("tax -1", x.gain(0, 0, 0, -1, 0), NO_VALUE);
            due("tax 101", x.gain(0, 0, 0, 101, 0), NO_VALUE);
            due("what -1", x.gain(0, 0, 0, 0, -1), NO_VALUE);
            due("what 2", x.gain(0, 0, 0, 0, 2), NO_VALUE);
            due("YEAR -1", x.gain(0, -1, 0, 0, 0), NO_VALUE);
            due("YEAR 10", x.gain(0, 10, 0, 0, 0), NO_VALUE);
            due("LAND 6", x.gain(6, 0, 0, 0, 0), NO_VALUE);
            due("LAND -1", x.gain(-1, 0, 0, 0, 0), NO_VALUE);
        });
    }

    private static void audit() {
        promise(40);
        edge("AUDITED TODAY: so many coins too much (0: right): how many COSTS are AUDITED", () -> {
            ReelBack x = studio();
            wages(x, 0, 0, 5, 3);
            x.days(1);
            due("right", x.audit(2, 0), 1);
            due("wrong", x.audit(0, 4), 2);
            due("right", x.of(2, 9), 1);
            due("wrong", x.of(0, 9), 2);
            due("TODAY", x.counted(0, 1, 0), 1);
            due("the DAY ahead", x.counted(0, 0, 0), 5);
        });
        edge("NONE (coins 0 .. COINS less 1); STATE: it was", () -> {
            ReelBack x = studio();
            due("no COSTS", x.audit(0, 0), NONE);
            wages(x, 0, 0, 5, 2);
            wage(x, 0, 0, 1);
            due("all 5 of 5", x.audit(0, 5), NONE);
            due("-1 of 5", x.audit(0, -1), NONE);
            due("1 of 1", x.audit(2, 1), NONE);
            due("COST 3 is none", x.audit(3, 0), NONE);
            due("COST -1", x.audit(-1, 0), NONE);
            due("none is AUDITED", x.count(11), 0);
            due("4 of 5", x.audit(0, 4), 1);
            due("it was", x.audit(0, 0), STATE);
            due("it was, -1", x.audit(0, -1), NONE);
            due("it was, 5", x.audit(0, 5), NONE);
            x.audit(1, 0);
            due("it was right", x.audit(1, 1), STATE);
            due("as before", x.of(1, 4), 5);
        });
        promise(41);
        edge("z becomes this: 1", () -> {
            ReelBack x = studio();
            wages(x, 0, 0, 5, 100);
            int[] seeds = {0, 1, -1, 7, MIN, MAX};
            for (int i = 0; i < seeds.length; i++) {
                due("lots", x.lots(seeds[i]), 1);
                int z = seeds[i] * 1103515245 + 12345;
                due("drawn", x.draw(0), (z >>> 8) % 100);
            }
        });
    }

    private static void draw() {
        promise(42);
        edge("DRAWN of a FILM: the COST", () -> {
            ReelBack x = studio();
            x.film(0, 1);
            wages(x, 0, 0, 5, 7);
            wages(x, 1, 0, 5, 11);
            // 4310654 % 11 is 7
            due("of eleven", x.draw(1), 7 + 7);
        });
        edge("NONE; NOT: all are AUDITED, or none is there (z stays)", () -> {
            ReelBack x = studio();
            x.film(0, 1);
            x.film(0, 1);
            due("none is there", x.draw(2), NOT);
            wages(x, 1, 0, 5, 1);
            x.audit(0, 0);
            due("all are AUDITED", x.draw(1), NOT);
            due("FILM 3 is none", x.draw(3), NONE);
            due("FILM -1", x.draw(-1), NONE);
            due("FILM 20", x.draw(20), NONE);
            wages(x, 0, 0, 5, 100);
            due("z stays 1", x.draw(0), 1 + 54);
        });
    }

    private static void bound() {
        promise(43);
        edge("BOUND of a FILM", () -> {
            due("of 10, 3 AUDITED, one wrong", boundOf(10, 3, 1), 8);
            due("of 10, 3 AUDITED, none wrong", boundOf(10, 3, 0), 5);
        });
        edge("NONE, BIG", () -> {
            ReelBack x = studio();
            due("FILM 1 is none", x.bound(1), NONE);
            due("FILM -1", x.bound(-1), NONE);
            due("FILM 20", x.bound(20), NONE);
            wages(x, 0, 0, 5, 30);
            due("30", x.bound(0), 30);
            x.cost(1, 5);
            due("31", x.bound(0), BIG);
        });
    }

    private static void tryText() {
        promise(44);
        edge("TRIED", () -> {
            ReelBack x = studio();
            wage(x, 0, 5, 1000);
            make(x, 51, 0, "1");
            due("of USE 1 of LAND 5", x.tryText(0), 10);
        });
        edge("NONE (also a TEXT of another USE)", () -> {
            ReelBack x = studio();
            due("no TEXTS", x.tryText(0), NONE);
            for (int land = 0; land <= 5; land++) {
                for (int use = 2; use <= 4; use++) {
                    due("USE " + use, x.tryText(make(x, 10 * land + use, 0, "1")), NONE);
                }
            }
            due("USE 0 of LAND 1", x.tryText(make(x, 10, 0, "1")), 0);
            due("USE 1 of LAND 5", x.tryText(make(x, 51, 0, "1")), 0);
            due("TEXT 20", x.tryText(20), NONE);
            due("TEXT -1", x.tryText(-1), NONE);
            ReelBack y = studio();
            make(y, 0, 0, "1");
            due("TEXT 1 is none", y.tryText(1), NONE);
            due("without COSTS", y.tryText(0), 0);
        });
        edge("(Held at 1999999999.)", () -> {
            ReelBack x = studio();
            x.coin(0, 0, 99999);
            for (int film = 1; film < 20; film++) {
                x.film(0, 1);
            }
            int most = 0;
            for (int i = 0; i < 150; i++) {
                if (i % 11 == 0) {
                    draft(x, i / 11, 0, 0, 0);
                }
                x.cost(1, 99999);
            }
            make(x, 1, 0, "100");
            for (int film = 0; film < 20; film++) {
                most += x.base(film, 0, -1, 0, 1);
            }
            due("13 FILMS have TOP, one has 7 COSTS", most, 13 * 99999999 + 7 * 9999800);
            due("the greatest that can be", x.tryText(0), most);
        });
    }

    private static void twice() {
        promise(45);
        edge("DOUBLES: how many twos (what 0), the first (1), the second COST (2) of the first two", () -> {
            ReelBack x = studio();
            x.film(0, 1);
            int[] receipts = {5, 6, 6, 5, 5};
            int[] films = {0, 0, 1, 1, 0};
            draft(x, 0, 0, 0, 0);
            for (int i = 0; i < 5; i++) {
                x.set(0, films[i]);
                x.set(5, receipts[i]);
                x.cost(1, 9);
            }
            due("0 and 3, 1 and 2, 3 and 4", x.twice(0), 3);
            due("the first", x.twice(1), 0);
            due("the second", x.twice(2), 3);
            ReelBack y = studio();
            draft(y, 0, 0, 0, 0);
            for (int i = 0; i < 150; i++) {
                y.set(2, i % 2);
                y.cost(1, 9);
            }
            due("75 in each of two LANDS", y.twice(0), 75 * 75);
            due("the last one is a later one", y.counted(149, 0, 1), 1);
        });
        edge("NONE; NOT: none", () -> {
            ReelBack x = studio();
            for (int what = 0; what <= 2; what++) {
                due("no COSTS", x.twice(what), NOT);
            }
            wage(x, 0, 0, 5);
            wage(x, 0, 0, 5);
            for (int what = 0; what <= 2; what++) {
                due("no DOUBLES", x.twice(what), NOT);
            }
            due("what 3", x.twice(3), NONE);
            due("what -1", x.twice(-1), NONE);
        });
    }
}
