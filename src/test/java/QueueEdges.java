/** Terms 4, promises 26 to 34: certificates that queue, advances, settling, loans. */
final class QueueEdges extends Edges {
    static void all() {
        chapter("Terms 4");
        termsOfAsking();
        termsOfGiven();
        termsOfForetold();
        termsOfPaying();
        termsOfLoans();
        termsOfRanks();
        termsOfRests();
        cap();
        ask();
        given();
        foretold();
        loan();
        advance();
        settle();
        repaid();
        got();
    }

    // ---- terms

    private static void termsOfAsking() {
        edge("CERTIFICATES 0 .. 59: a FILM asks in a LAND, TODAY, once", () -> {
            ReelBack x = studio();
            for (int film = 1; film <= 10; film++) {
                x.film(0, 1);
            }
            for (int i = 0; i <= 59; i++) {
                due("ask", x.ask(i / 6, i % 6), i);
            }
            due("the 61st", x.ask(10, 0), FULL);
            due("once", x.ask(9, 5), STATE);
            due("how many", x.count(9), 60);
            due("none such", x.given(60, -1), NONE);
            due("the last", x.given(59, -1), 0);
        });
        edge("a place in the queue of that LAND", () -> {
            ReelBack x = studio();
            certificate(x, 1, 1000);
            certificate(x, 0, 1000);
            certificate(x, 0, 1000);
            x.cap(0, 0, 400);
            x.cap(1, 0, 250);
            due("of LAND 1", x.given(0, -1), 250);
            due("the first of LAND 0", x.given(1, -1), 300);
            due("the second of LAND 0", x.given(2, -1), 100);
        });
        edge("CAP of a LAND in a YEAR (0 .. 99999999; told; 99999999 at first)", () -> {
            ReelBack x = studio();
            certificate(x, 0, 1000);
            for (int land = 0; land <= 5; land++) {
                for (int year = 0; year <= 9; year++) {
                    due("at first", x.cap(land, year, 99999999), 99999999);
                }
            }
            due("-1", x.cap(0, 0, -1), NONE);
            due("100000000", x.cap(0, 0, 100000000), NONE);
            due("as before", x.given(0, -1), 300);
            due("0", x.cap(0, 0, 0), 99999999);
            due("then", x.given(0, -1), 0);
        });
    }

    private static void termsOfGiven() {
        edge("GIVEN AS KNOWN TODAY: YEAR by YEAR from that of the first asking to the present one", () -> {
            ReelBack x = studio();
            for (int year = 0; year <= 9; year++) {
                x.cap(0, year, 10);
            }
            years(x, 2);
            certificate(x, 0, 1000);
            due("YEAR 0, ahead of it", x.given(0, 0), 0);
            due("YEAR 1, ahead of it", x.given(0, 1), 0);
            due("YEAR 2", x.given(0, 2), 10);
            due("YEAR 3, to come", x.given(0, 3), NONE);
            due("all", x.given(0, -1), 10);
            x.days(359);
            due("YEAR 2 still", x.given(0, -1), 10);
            x.days(1);
            due("YEAR 3", x.given(0, 3), 10);
            due("all", x.given(0, -1), 20);
            x.audit(0, 950);
            due("DUE 15, YEAR 2", x.given(0, 2), 10);
            due("DUE 15, YEAR 3", x.given(0, 3), 5);
        });
        edge("in the order of the queue (those that asked by the end of that YEAR)", () -> {
            ReelBack x = studio();
            certificate(x, 0, 1000);
            x.days(359);
            certificate(x, 0, 1000);
            x.days(1);
            certificate(x, 0, 1000);
            due("asked at its begin, YEAR 0", x.given(0, 0), 300);
            due("asked on its last DAY, YEAR 0", x.given(1, 0), 300);
            due("asked a DAY later, YEAR 0", x.given(2, 0), 0);
            due("asked a DAY later, YEAR 1", x.given(2, 1), 300);
            due("had all, YEAR 1", x.given(1, 1), 0);
        });
        edge("each gets of its DUE AS KNOWN TODAY what it has not got yet, as far as the YEAR's CAP goes", () -> {
            int[] caps = {0, 1, 299, 300, 301, 599, 600, 601};
            for (int i = 0; i < caps.length; i++) {
                ReelBack x = studio();
                certificate(x, 0, 1000);
                certificate(x, 0, 1000);
                x.cap(0, 0, caps[i]);
                due("the first of " + caps[i], x.given(0, 0), Math.min(300, caps[i]));
                due("the second of " + caps[i], x.given(1, 0), Math.max(0, Math.min(300, caps[i] - 300)));
                x.days(360);
                due("the first has all", x.given(0, -1), 300);
                due("its rest", x.given(0, 1), 300 - Math.min(300, caps[i]));
            }
        });
        edge("as far as the YEAR's CAP goes", () -> {
            ReelBack x = studio();
            certificate(x, 0, 1000);
            x.cap(0, 0, 1000);
            x.cap(0, 1, 10);
            x.days(360);
            certificate(x, 0, 1000);
            due("YEAR 0", x.given(0, 0), 300);
            due("what YEAR 0 left is not YEAR 1's", x.given(1, 1), 10);
            x.advance(0);
            x.advance(1);
            x.settle(0);
            due("SETTLED, as before", x.given(0, -1), 300);
            due("with an ADVANCE, as before", x.given(1, -1), 10);
        });
        edge("who is not given all waits for the next YEAR, ahead of later ones", () -> {
            ReelBack x = studio();
            certificate(x, 0, 1000);
            x.cap(0, 0, 100);
            x.cap(0, 1, 250);
            x.days(360);
            certificate(x, 0, 1000);
            due("YEAR 1: the rest", x.given(0, 1), 200);
            due("YEAR 1: the later one", x.given(1, 1), 50);
            x.cap(0, 0, 99);
            due("YEAR 1: one more", x.given(0, 1), 201);
            due("YEAR 1: one less", x.given(1, 1), 49);
        });
    }

    private static void termsOfForetold() {
        edge("FORETOLD: the YEAR in which one would have all, if CAPS go on (to YEAR 9)", () -> {
            ReelBack x = studio();
            certificate(x, 0, 1000);
            due("at once", x.foretold(0), 0);
            x.cap(0, 0, 300);
            due("just all", x.foretold(0), 0);
            x.cap(0, 0, 299);
            due("one is missing", x.foretold(0), 1);
            for (int year = 0; year <= 8; year++) {
                x.cap(0, year, 30);
            }
            x.cap(0, 9, 30);
            due("300 by 30 a YEAR", x.foretold(0), 9);
            x.cap(0, 8, 60);
            due("a YEAR ahead", x.foretold(0), 8);
            years(x, 9);
            due("the same on a later DAY", x.foretold(0), 8);
        });
        edge("NOT: not by then", () -> {
            ReelBack x = studio();
            certificate(x, 0, 1000);
            for (int year = 0; year <= 9; year++) {
                x.cap(0, year, 30);
            }
            x.cap(0, 4, 29);
            due("299 by YEAR 9", x.foretold(0), NOT);
            x.cap(0, 0, 31);
            due("300 by YEAR 9", x.foretold(0), 9);
            years(x, 9);
            x.ask(0, 0);
            due("asked in YEAR 9, nothing is DUE", x.foretold(1), 9);
        });
    }

    private static void termsOfPaying() {
        edge("ADVANCE of a CERTIFICATE (by call, once): half of DUE AS KNOWN TODAY (cut)", () -> {
            int[] coins = {3, 4, 7, 10, 14, 1000};
            int[] half = {0, 0, 1, 1, 2, 150};
            for (int i = 0; i < coins.length; i++) {
                ReelBack x = studio();
                certificate(x, 0, coins[i]);
                due("of " + coins[i] * 30 / 100, x.advance(0), half[i]);
                due("once", x.advance(0), STATE);
                due("the HOUSE has it", x.got(0), half[i]);
            }
            ReelBack y = studio();
            certificate(y, 0, 1000);
            y.cap(0, 0, 0);
            y.days(1);
            y.audit(0, 500);
            due("of 150, whatever the CAP is", y.advance(0), 75);
        });
        edge("SETTLED (by call, once, TODAY): GIVEN less ADVANCE: paid, if above 0", () -> {
            int[] caps = {150, 151, 300, 301};
            int[] want = {0, 1, 150, 150};
            for (int i = 0; i < caps.length; i++) {
                ReelBack x = studio();
                certificate(x, 0, 1000);
                x.cap(0, 0, caps[i]);
                x.advance(0);
                due("GIVEN of " + caps[i], x.settle(0), want[i]);
                due("paid", x.got(0), 150 + want[i]);
                due("once", x.settle(0), STATE);
            }
            ReelBack y = studio();
            certificate(y, 0, 1000);
            y.cap(0, 0, 100);
            y.days(1);
            due("YEARS to come are not looked at", y.settle(0), 100);
            y.days(360);
            due("once", y.settle(0), STATE);
            due("nothing more", y.got(0), 100);
        });
        edge("else that much is to be given BACK", () -> {
            int[] caps = {149, 1, 0};
            for (int i = 0; i < caps.length; i++) {
                ReelBack x = studio();
                certificate(x, 0, 1000);
                x.cap(0, 0, caps[i]);
                x.advance(0);
                x.loan(0, 0, 40, 0);
                due("GIVEN of " + caps[i], x.settle(0), caps[i] - 150);
                due("what it got till now", x.got(0), 150);
                due("no LOAN is repaid", x.repaid(0, 0), 0);
                due("once", x.settle(0), STATE);
            }
        });
    }

    private static void termsOfLoans() {
        edge("LOANS on a CERTIFICATE (at most 60 in all): a LENDER (0 .. 19), coins, a RANK 0 .. 2", () -> {
            ReelBack x = studio();
            certificate(x, 0, 99999);
            certificate(x, 0, 99999);
            for (int i = 0; i < 60; i++) {
                due("loan", x.loan(i % 2, i % 20, 100, i % 3), i);
            }
            due("the 61st", x.loan(0, 0, 1, 0), FULL);
            due("how many", x.count(10), 60);
            due("advance", x.advance(0), 14999);
            due("30 LOANS of 100", x.count(13), 3000);
            due("the last one is on the other", x.repaid(59, 0), 0);
            due("the last of its own", x.repaid(58, 0), 100);
            due("what is left", x.got(0), 11999);
            due("advance", x.advance(1), 14999);
            due("the last one", x.repaid(59, 0), 100);
        });
        edge("Of what is paid (ADVANCE, at SETTLING) LOANS are repaid first", () -> {
            ReelBack x = studio();
            certificate(x, 0, 1000);
            x.loan(0, 0, 170, 0);
            x.advance(0);
            due("of the ADVANCE", x.repaid(0, 0), 150);
            due("nothing is left", x.got(0), 0);
            x.settle(0);
            due("at SETTLING", x.repaid(0, 0), 170);
            due("what is left", x.got(0), 130);
            ReelBack y = studio();
            certificate(y, 0, 1000);
            y.advance(0);
            y.loan(0, 0, 20, 0);
            due("a LOAN behind the ADVANCE", y.repaid(0, 0), 0);
            y.settle(0);
            due("at SETTLING", y.repaid(0, 0), 20);
            due("what is left", y.got(0), 280);
        });
    }

    /** LOANS of these coins and RANKS on a CERTIFICATE whose ADVANCE is 100; what each got then. */
    private static void advanceOf100(int[] coins, int[] ranks, int[] want, int left) {
        ReelBack x = studio();
        certificate(x, 0, 667);
        for (int i = 0; i < coins.length; i++) {
            x.loan(0, i, coins[i], ranks[i]);
        }
        due("ADVANCE", x.advance(0), 100);
        for (int i = 0; i < coins.length; i++) {
            due("LOAN " + i, x.repaid(i, 0), want[i]);
            due("left of LOAN " + i, x.repaid(i, 1), coins[i] - want[i]);
        }
        due("the HOUSE", x.got(0), left);
    }

    private static void termsOfRanks() {
        edge("by RANKS", () -> {
            advanceOf100(new int[] {60, 60, 60}, new int[] {2, 1, 0}, new int[] {0, 40, 60}, 0);
            advanceOf100(new int[] {60, 60, 60}, new int[] {0, 2, 2}, new int[] {60, 20, 20}, 0);
            advanceOf100(new int[] {30, 30, 30}, new int[] {2, 1, 0}, new int[] {30, 30, 30}, 10);
        });
        edge("a RANK whole", () -> {
            advanceOf100(new int[] {50, 50}, new int[] {1, 1}, new int[] {50, 50}, 0);
            advanceOf100(new int[] {50, 49}, new int[] {1, 1}, new int[] {50, 49}, 1);
            advanceOf100(new int[] {1, 100}, new int[] {0, 1}, new int[] {1, 99}, 0);
            advanceOf100(new int[] {100, 1}, new int[] {0, 1}, new int[] {100, 0}, 0);
            ReelBack x = studio();
            certificate(x, 0, 667);
            x.loan(0, 0, 100, 0);
            x.advance(0);
            due("whole by the ADVANCE", x.repaid(0, 1), 0);
            due("SETTLED", x.settle(0), 100);
            due("not more than whole", x.repaid(0, 0), 100);
            due("what is left", x.got(0), 100);
        });
        edge("or by whole parts", () -> {
            advanceOf100(new int[] {150, 50}, new int[] {0, 0}, new int[] {75, 25}, 0);
            advanceOf100(new int[] {99999999, 1}, new int[] {2, 2}, new int[] {100, 0}, 0);
            ReelBack x = studio();
            certificate(x, 0, 667);
            x.loan(0, 0, 80, 0);
            x.loan(0, 0, 120, 0);
            x.advance(0);
            x.loan(0, 0, 100, 0);
            x.settle(0);
            due("40 and 40 * 100 / 200", x.repaid(0, 0), 60);
            due("60 and 60 * 100 / 200", x.repaid(1, 0), 90);
            due("100 * 100 / 200", x.repaid(2, 0), 50);
        });
    }

    private static void termsOfRests() {
        edge("the rest one by one to those with the greatest rests", () -> {
            // of 300: 33.33, 33.66, 33.00: rests 100, 200, 0
            advanceOf100(new int[] {100, 101, 99}, new int[] {0, 0, 0}, new int[] {33, 34, 33}, 0);
            // of 7 hundreds: 14.28, 28.57, 57.14: the second
            advanceOf100(new int[] {100, 200, 400}, new int[] {0, 0, 0}, new int[] {14, 29, 57}, 0);
            // of 201: 0.497 and 99.502
            advanceOf100(new int[] {1, 200}, new int[] {0, 0}, new int[] {0, 100}, 0);
            // of 160: 20.62, 20.62, 58.75: two coins
            advanceOf100(new int[] {33, 33, 94}, new int[] {0, 0, 0}, new int[] {21, 20, 59}, 0);
        });
        edge("of like ones the earlier", () -> {
            advanceOf100(new int[] {100, 100, 100}, new int[] {1, 1, 1}, new int[] {34, 33, 33}, 0);
            advanceOf100(new int[] {50, 50, 50, 50, 50, 50}, new int[] {0, 0, 0, 0, 0, 0},
                new int[] {17, 17, 17, 17, 16, 16}, 0);
            ReelBack x = studio();
            certificate(x, 0, 1000);
            certificate(x, 0, 10);
            x.loan(0, 0, 100, 0);
            x.loan(0, 0, 101, 0);
            x.loan(1, 0, 1, 0);
            x.loan(1, 0, 1, 0);
            due("ADVANCE", x.advance(0), 150);
            due("74.62", x.repaid(0, 0), 75);
            due("75.37", x.repaid(1, 0), 75);
            due("one coin", x.advance(1), 1);
            due("the earlier", x.repaid(2, 0), 1);
            due("the later", x.repaid(3, 0), 0);
            due("none for another CERTIFICATE's", x.repaid(1, 0), 75);
            due("none for another CERTIFICATE's", x.repaid(0, 0), 75);
        });
        edge("what is left goes to the HOUSE of the FILM then", () -> {
            ReelBack x = studio();
            certificate(x, 0, 667);
            x.loan(0, 0, 99, 0);
            x.sell(1, 1);
            x.advance(0);
            due("the HOUSE then", x.got(1), 1);
            x.sell(1, 0);
            x.settle(0);
            due("the HOUSE at SETTLING", x.got(0), 100);
            due("got till then", x.got(1), 1);
        });
    }

    // ---- promises

    private static void cap() {
        promise(26);
        edge("CAP of a LAND in a YEAR becomes v: what it was", () -> {
            ReelBack x = new ReelBack();
            due("0", x.cap(5, 9, 0), 99999999);
            due("99999999", x.cap(5, 9, 99999999), 0);
            due("1", x.cap(5, 9, 1), 99999999);
            due("of another YEAR", x.cap(5, 8, 2), 99999999);
            due("of another LAND", x.cap(4, 9, 3), 99999999);
            due("as told", x.cap(5, 9, 1), 1);
        });
        edge("NONE", () -> {
            ReelBack x = new ReelBack();
            due("LAND 6", x.cap(6, 0, 1), NONE);
            due("LAND -1", x.cap(-1, 9, 1), NONE);
            due("YEAR 10", x.cap(0, 10, 1), NONE);
            due("YEAR -1", x.cap(1, -1, 1), NONE);
            due("v -1", x.cap(0, 0, -1), NONE);
            due("v 100000000", x.cap(0, 0, 100000000), NONE);
            due("as before", x.cap(0, 0, 1), 99999999);
            due("as before", x.cap(0, 9, 1), 99999999);
            due("as before", x.cap(1, 0, 1), 99999999);
        });
    }

    private static void ask() {
        promise(27);
        edge("A CERTIFICATE: its number", () -> {
            ReelBack x = studio();
            due("the first", x.ask(0, 5), 0);
            due("the second", x.ask(0, 0), 1);
        });
        edge("NONE; STATE: the FILM asked there; FULL", () -> {
            ReelBack x = studio();
            due("FILM 1 is none", x.ask(1, 0), NONE);
            due("FILM -1", x.ask(-1, 0), NONE);
            due("FILM 20", x.ask(20, 0), NONE);
            due("LAND 6", x.ask(0, 6), NONE);
            due("LAND -1", x.ask(0, -1), NONE);
            x.ask(0, 0);
            due("asked there", x.ask(0, 0), STATE);
            years(x, 1);
            x.settle(0);
            due("asked there, SETTLED", x.ask(0, 0), STATE);
            for (int film = 1; film <= 10; film++) {
                x.film(0, 1);
            }
            for (int i = 1; i < 60; i++) {
                x.ask(i / 6, i % 6);
            }
            due("full", x.ask(10, 0), FULL);
            due("asked there though full", x.ask(9, 5), STATE);
            due("asked there first though full", x.ask(0, 0), STATE);
            due("no LAND though full", x.ask(0, 6), NONE);
            due("no FILM though full", x.ask(11, 0), NONE);
        });
    }

    private static void given() {
        promise(28);
        edge("GIVEN AS KNOWN TODAY: all (what -1), in a YEAR (0 .. the present one)", () -> {
            ReelBack x = studio();
            certificate(x, 0, 1000);
            x.cap(0, 0, 10);
            x.cap(0, 1, 20);
            due("YEAR 0 is the present one", x.given(0, 0), 10);
            due("YEAR 1 is to come", x.given(0, 1), NONE);
            x.days(360);
            due("YEAR 1", x.given(0, 1), 20);
            due("all", x.given(0, -1), 30);
            due("YEAR 2 is to come", x.given(0, 2), NONE);
            years(x, 8);
            due("YEAR 9", x.given(0, 9), 0);
            due("YEAR 10", x.given(0, 10), NONE);
            due("YEAR 2", x.given(0, 2), 270);
            due("all", x.given(0, -1), 300);
        });
        edge("NONE", () -> {
            ReelBack x = studio();
            due("no CERTIFICATES", x.given(0, -1), NONE);
            x.ask(0, 0);
            due("CERTIFICATE 1 is none", x.given(1, -1), NONE);
            due("CERTIFICATE -1", x.given(-1, -1), NONE);
            due("CERTIFICATE 60", x.given(60, 0), NONE);
            due("what -2", x.given(0, -2), NONE);
            due("what MAX", x.given(0, MAX), NONE);
        });
    }

    private static void foretold() {
        promise(29);
        edge("FORETOLD: the YEAR; NOT", () -> {
            ReelBack x = studio();
            certificate(x, 3, 1000);
            years(x, 1);
            certificate(x, 3, 1000);
            due("the first", x.foretold(0), 0);
            due("the second", x.foretold(1), 1);
            for (int year = 0; year <= 9; year++) {
                x.cap(3, year, 0);
            }
            due("without CAPS", x.foretold(0), NOT);
            due("without CAPS", x.foretold(1), NOT);
            x.cap(3, 9, 300);
            due("the first in YEAR 9", x.foretold(0), 9);
            due("the second not", x.foretold(1), NOT);
            x.cap(3, 9, 600);
            due("the second in YEAR 9", x.foretold(1), 9);
        });
        edge("NONE", () -> {
            ReelBack x = studio();
            due("no CERTIFICATES", x.foretold(0), NONE);
            x.ask(0, 0);
            due("CERTIFICATE 1 is none", x.foretold(1), NONE);
            due("CERTIFICATE -1", x.foretold(-1), NONE);
            due("CERTIFICATE 60", x.foretold(60), NONE);
            due("nothing is DUE", x.foretold(0), 0);
        });
    }

    private static void loan() {
        promise(30);
        edge("A LOAN: its number", () -> {
            ReelBack x = studio();
            x.ask(0, 0);
            due("the first", x.loan(0, 0, 1, 0), 0);
            due("the second", x.loan(0, 19, 99999999, 2), 1);
        });
        edge("NONE (coins 1 .. 99999999, RANK 0 .. 2)", () -> {
            ReelBack x = studio();
            due("no CERTIFICATES", x.loan(0, 0, 1, 0), NONE);
            x.ask(0, 0);
            due("coins 0", x.loan(0, 0, 0, 0), NONE);
            due("coins 100000000", x.loan(0, 0, 100000000, 0), NONE);
            due("coins -1", x.loan(0, 0, -1, 0), NONE);
            due("RANK -1", x.loan(0, 0, 1, -1), NONE);
            due("RANK 3", x.loan(0, 0, 1, 3), NONE);
            due("LENDER -1", x.loan(0, -1, 1, 0), NONE);
            due("LENDER 20", x.loan(0, 20, 1, 0), NONE);
            due("CERTIFICATE 1 is none", x.loan(1, 0, 1, 0), NONE);
            due("CERTIFICATE -1", x.loan(-1, 0, 1, 0), NONE);
            due("how many", x.count(10), 0);
        });
        edge("STATE: it is SETTLED; FULL", () -> {
            ReelBack x = studio();
            x.ask(0, 0);
            x.ask(0, 1);
            x.settle(1);
            due("SETTLED", x.loan(1, 0, 1, 0), STATE);
            due("RANK 3 though SETTLED", x.loan(1, 0, 1, 3), NONE);
            due("coins 0 though SETTLED", x.loan(1, 0, 0, 0), NONE);
            x.advance(0);
            due("an ADVANCE alone", x.loan(0, 0, 1, 0), 0);
            for (int i = 1; i < 60; i++) {
                x.loan(0, 0, 1, 0);
            }
            due("full", x.loan(0, 0, 1, 0), FULL);
            due("SETTLED though full", x.loan(1, 0, 1, 0), STATE);
            due("LENDER 20 though full", x.loan(0, 20, 1, 0), NONE);
            due("CERTIFICATE 2 is none though full", x.loan(2, 0, 1, 0), NONE);
        });
    }

    private static void advance() {
        promise(31);
        edge("ADVANCE: how much", () -> {
            ReelBack x = studio();
            certificate(x, 0, 1000);
            x.ask(0, 0);
            due("half of 300", x.advance(0), 150);
            due("half of nothing", x.advance(1), 0);
        });
        edge("NONE; STATE: there was one, or it is SETTLED", () -> {
            ReelBack x = studio();
            due("no CERTIFICATES", x.advance(0), NONE);
            certificate(x, 0, 1000);
            x.ask(0, 0);
            x.ask(0, 1);
            due("CERTIFICATE 3 is none", x.advance(3), NONE);
            due("CERTIFICATE -1", x.advance(-1), NONE);
            due("CERTIFICATE 60", x.advance(60), NONE);
            x.advance(0);
            due("there was one", x.advance(0), STATE);
            x.advance(1);
            due("there was one of 0", x.advance(1), STATE);
            x.settle(2);
            due("SETTLED", x.advance(2), STATE);
            x.settle(0);
            due("both", x.advance(0), STATE);
            due("how much in all", x.got(0), 300);
        });
    }

    private static void settle() {
        promise(32);
        edge("SETTLED: what is paid; below 0: what must be given BACK", () -> {
            ReelBack x = studio();
            certificate(x, 0, 1000);
            certificate(x, 1, 1000);
            certificate(x, 2, 1000);
            x.cap(1, 0, 149);
            x.cap(2, 0, 150);
            x.advance(0);
            x.advance(1);
            x.advance(2);
            due("paid", x.settle(0), 150);
            due("given BACK", x.settle(1), -1);
            due("neither", x.settle(2), 0);
        });
        edge("NONE; STATE: it is", () -> {
            ReelBack x = studio();
            due("no CERTIFICATES", x.settle(0), NONE);
            certificate(x, 0, 1000);
            due("CERTIFICATE 1 is none", x.settle(1), NONE);
            due("CERTIFICATE -1", x.settle(-1), NONE);
            due("CERTIFICATE 60", x.settle(60), NONE);
            due("without ADVANCE", x.settle(0), 300);
            due("again", x.settle(0), STATE);
            x.days(1);
            due("again, later", x.settle(0), STATE);
            due("paid once", x.got(0), 300);
        });
    }

    private static void repaid() {
        promise(33);
        edge("What a LOAN got till now (what 0), what is left of it (1)", () -> {
            ReelBack x = studio();
            certificate(x, 0, 1000);
            x.loan(0, 0, 99999999, 0);
            due("nothing till now", x.repaid(0, 0), 0);
            due("all is left", x.repaid(0, 1), 99999999);
            x.advance(0);
            due("150 till now", x.repaid(0, 0), 150);
            due("left", x.repaid(0, 1), 99999849);
        });
        edge("NONE", () -> {
            ReelBack x = studio();
            due("no LOANS", x.repaid(0, 0), NONE);
            x.ask(0, 0);
            x.loan(0, 0, 1, 0);
            due("LOAN 1 is none", x.repaid(1, 0), NONE);
            due("LOAN -1", x.repaid(-1, 0), NONE);
            due("LOAN 60", x.repaid(60, 1), NONE);
            due("what 2", x.repaid(0, 2), NONE);
            due("what -1", x.repaid(0, -1), NONE);
        });
    }

    private static void got() {
        promise(34);
        edge("What a HOUSE got till now", () -> {
            ReelBack x = studio();
            due("nothing", x.got(0), 0);
            certificate(x, 0, 1000);
            certificate(x, 0, 20);
            x.advance(0);
            x.advance(1);
            due("two ADVANCES", x.got(0), 153);
            due("the other", x.got(1), 0);
        });
        edge("NONE", () -> {
            ReelBack x = studio();
            due("HOUSE 2 is none", x.got(2), NONE);
            due("HOUSE -1", x.got(-1), NONE);
            due("HOUSE 20", x.got(20), NONE);
        });
    }
}
