/** The paragraph of the answers: which comes first, what each is, and that what is refused changes nothing. */
final class AnswerEdges extends Edges {
    /** Makes an object, the same each time. */
    private interface World {
        ReelBack make();
    }

    private interface Call {
        int on(ReelBack x);
    }

    static void all() {
        chapter("What it is");
        used();
        chapter("Answers");
        firstNamed();
        numbersOfAnswers();
        refusedOfDays();
        refusedOfCosts();
        refusedOfTexts();
        refusedOfCertificates();
        refusedOfTreaties();
        refusedWhenFull();
        askingChangesNothing();
        ownMemory();
    }

    private static void used() {
        edge("An object is used for at most 512 calls after it has been made; what later calls answer is free.", () -> {
            ReelBack x = studio();
            for (int call = 6; call <= 511; call++) {
                due("call " + call, x.days(1), call - 5);
            }
            due("call 512", x.count(3), 506);
            ReelBack y = studio();
            for (int call = 6; call <= 512; call++) {
                due("call " + call, y.person(6), NONE);
            }
        });
    }

    // ---- worlds

    /** Something of everything, on DAY 400. */
    private static ReelBack busy() {
        ReelBack x = new ReelBack();
        for (int i = 0; i < 4; i++) {
            x.house(i);
            x.person(i);
        }
        x.film(0, 3);
        x.film(1, 1);
        x.film(2, 1);
        x.relate(0, 2);
        x.days(360);
        x.days(40);
        x.coin(0, 0, 2000);
        x.stay(0, 1, 0, 399);
        x.point(0, 0, 5);
        x.point(0, 0, 6);
        x.prove(0);
        x.like(0, 0, 390, 70);
        x.like(0, 0, 391, 60);
        spendings(x);
        make(x, 0, 0, "k*9+40");
        make(x, 1, 300, "25");
        make(x, 2, 0, "1");
        feed(x, "1+2");
        claims(x);
        x.move(100, 3);
        x.move(50, 3);
        x.split(0, 3, 20);
        x.move(7, 6);
        x.move(8, 3);
        x.audit(0, 10);
        x.audit(5, 0);
        x.lots(77);
        x.draw(0);
        x.act(2, 2, 5);
        return x;
    }

    private static void spendings(ReelBack x) {
        wage(x, 0, 0, 900);
        goods(x, 0, 0, 2, 500);
        spend(x, 5, 0, 0, 1, 400);
        draft(x, 1, 1, 380, 1);
        x.set(5, 1000);
        x.cost(4, 300);
        wage(x, 1, 0, 2000);
        wage(x, 2, 0, 700);
        draft(x, 0, 1, 390, 3);
        x.set(1, 2);
        x.set(6, 9);
    }

    private static void claims(ReelBack x) {
        x.cap(0, 1, 500);
        x.cap(1, 1, 0);
        x.ask(0, 0);
        x.ask(1, 0);
        x.ask(1, 1);
        x.ask(2, 0);
        x.loan(0, 3, 100, 1);
        x.loan(0, 4, 1000, 1);
        x.loan(1, 4, 1000, 0);
        x.advance(0);
        x.advance(2);
        x.settle(2);
    }

    // ---- all that can be seen of an object; what is looked at last may change it

    private static void counts(ReelBack x, StringBuilder all) {
        for (int what = 0; what <= 13; what++) {
            all.append(x.count(what)).append(' ');
        }
    }

    private static void lookAtCosts(ReelBack x, StringBuilder all) {
        for (int cost = 0; cost < 7; cost++) {
            for (int what = 0; what <= 9; what++) {
                all.append(x.of(cost, what)).append(' ');
            }
            for (int what = 0; what <= 3; what++) {
                all.append(x.span(cost, 3599, what)).append(' ').append(x.counted(cost, 3599, what)).append(' ');
            }
            all.append(x.counted(cost, 399, 2)).append(' ');
        }
        for (int what = 0; what <= 6; what++) {
            all.append(x.set(what, 0)).append(' ');
        }
    }

    private static void lookAtPersons(ReelBack x, StringBuilder all) {
        for (int land = 0; land < 6; land++) {
            for (int i = 0; i < 4; i++) {
                all.append(x.lives(i, land, 200, 3599)).append(' ').append(x.points(i, land, 3599)).append(' ');
            }
            all.append(x.coinOn(land, 0)).append(' ').append(x.coinOn(land, 3599)).append(' ');
        }
        for (int i = 0; i < 6; i++) {
            all.append(x.prove(i)).append(' ').append(x.points(0, 0, 3599)).append(' ');
            all.append(x.sell(i, 3)).append(' ').append(x.sell(i, 0)).append(' ').append(x.got(i)).append(' ');
        }
        for (int a = 0; a < 5; a++) {
            for (int b = 0; b < 5; b++) {
                all.append(x.relate(a, b)).append(' ');
            }
        }
        all.append(x.stay(0, 5, 0, 3599)).append(' ').append(x.lives(0, 5, 399, 3599)).append(' ');
    }

    private static void lookAtClaims(ReelBack x, StringBuilder all) {
        for (int i = 0; i < 4; i++) {
            all.append(x.given(i, -1)).append(' ').append(x.given(i, 1)).append(' ').append(x.foretold(i)).append(' ');
            all.append(x.repaid(i, 0)).append(' ').append(x.repaid(i, 1)).append(' ').append(x.got(i)).append(' ');
            all.append(x.ask(i, 0)).append(' ').append(x.ask(i, 1)).append(' ').append(x.loan(i, 0, 9, 1)).append(' ');
        }
        for (int i = 0; i < 60; i++) {
            all.append(x.cap(i / 10, i % 10, 99999999)).append(' ');
        }
        for (int i = 0; i < 4; i++) {
            all.append(x.advance(i)).append(' ').append(x.settle(i)).append(' ').append(x.got(i)).append(' ');
        }
        for (int i = 0; i < 6; i++) {
            all.append(x.repaid(i, 0)).append(' ');
        }
    }

    private static void lookAtTexts(ReelBack x, StringBuilder all) {
        for (int what = 0; what < 60; what++) {
            all.append(x.inForce(what, 3599, 3599)).append(' ');
        }
        for (int i = 0; i < 9; i++) {
            all.append(x.trace(i)).append(' ').append(x.moved(i)).append(' ');
        }
        all.append(x.without()).append(' ').append(x.split(0, 3, 0)).append(' ').append(x.moved(0)).append(' ');
        for (int film = 0; film < 4; film++) {
            all.append(x.bound(film)).append(' ').append(x.draw(film)).append(' ').append(x.draw(film)).append(' ');
        }
        for (int what = 0; what < 3; what++) {
            all.append(x.twice(what)).append(' ').append(x.tryText(what)).append(' ');
        }
        all.append(make(x, 53, 0, "+n")).append(' ').append(x.law(5, 0, 0, 3599, 3)).append(' ').append(x.count(8));
    }

    /** What can be seen of a world on which a call was made, or none: each look on an object of its own. */
    private static String looks(World world, Call call) {
        StringBuilder all = new StringBuilder();
        for (int look = 0; look < 4; look++) {
            ReelBack x = world.make();
            if (call != null) {
                call.on(x);
            }
            counts(x, all);
            switch (look) {
                case 0: lookAtCosts(x, all); break;
                case 1: lookAtPersons(x, all); break;
                case 2: lookAtClaims(x, all); break;
                default: lookAtTexts(x, all);
            }
            counts(x, all);
            all.append('\n');
        }
        return all.toString();
    }

    private static void refused(String what, World world, int want, Call call) {
        due(what, call.on(world.make()), want);
        same("what is seen behind " + what, looks(world, call), looks(world, null));
    }

    private static void none(String what, Call call) {
        refused(what, AnswerEdges::busy, NONE, call);
    }

    private static void state(String what, Call call) {
        refused(what, AnswerEdges::busy, STATE, call);
    }

    // ---- which answer comes first, and what it is

    private static void firstNamed() {
        edge("Answers, the first that a call names", () -> {
            due("coin: NONE, FULL", coinsFull().coin(0, 0, 0), NONE);
            due("house: NONE, FULL", housesFull().house(6), NONE);
            due("film: NONE, FULL", filmsFull().film(0, 0), NONE);
            due("person: NONE, FULL", personsFull().person(6), NONE);
            due("stay: NONE, FULL", staysFull().stay(0, 0, 1, 0), NONE);
            due("point: NONE, FULL", pointsFull().point(0, 0, 21), NONE);
            due("cost: NONE, FULL", costsFull().cost(7, 5), NONE);
            due("like: NONE, FULL", likesFull().like(0, 0, 0, 0), NONE);
            due("span: NONE; NOT", busy().span(3, 3600, 0), NONE);
            due("span: NONE; NOT", busy().span(3, 400, 4), NONE);
            due("feed: NONE, FULL", tapeFull().feed(5, 0), NONE);
            due("text: NONE, FULL", textsFull().text(5, 0), NONE);
            due("inForce: NONE, NOT", busy().inForce(0, 3600, 0), NONE);
            due("ask: NONE; STATE", busy().ask(0, 6), NONE);
            due("ask: STATE; FULL", certificatesFull().ask(0, 0), STATE);
            due("loan: NONE; STATE", busy().loan(2, 0, 0, 0), NONE);
            due("loan: STATE; FULL", loansFull().loan(2, 0, 1, 0), STATE);
            due("loan: NONE; STATE; FULL", loansFull().loan(2, 20, 1, 0), NONE);
            due("move: NONE, FULL", movesFull().move(0, 1), NONE);
            due("split: NONE; STATE", new ReelBack().split(0, 3, 0), NONE);
            due("split: NONE; NOT", busy().split(0, 48, 51), NONE);
            due("split: STATE; NOT", studio().split(0, 48, 50), STATE);
            due("audit: NONE; STATE", busy().audit(0, 900), NONE);
            due("draw: NONE; NOT", busy().draw(3), NONE);
            due("twice: NONE; NOT", studio().twice(3), NONE);
            due("taken: NONE, CAST", busy().taken(1, 7), NONE);
        });
    }

    private static void numbersOfAnswers() {
        edge("NONE (-1): no such thing, or a number is not as said", () -> {
            due("NONE", ReelBack.NONE, -1);
            due("no such thing", new ReelBack().got(0), -1);
            due("a number is not as said", new ReelBack().days(0), -1);
        });
        edge("FULL (-2)", () -> {
            due("FULL", ReelBack.FULL, -2);
            due("a 21st HOUSE", housesFull().house(0), -2);
        });
        edge("STATE (-3): as told", () -> {
            due("STATE", ReelBack.STATE, -3);
            due("RELATED twice", busy().relate(0, 2), -3);
        });
        edge("NOT (-4)", () -> {
            due("NOT", ReelBack.NOT, -4);
            due("no TEXT in force", new ReelBack().inForce(0, 0, 0), -4);
        });
        edge("BIG (-5)", () -> {
            due("BIG", ReelBack.BIG, -5);
            due("BOUND of 150", costsFull().bound(0), -5);
        });
        edge("CAST (-6): a COST of another KIND", () -> {
            due("CAST", ReelBack.CAST, -6);
            due("a WAGE for GOODS", busy().taken(0, 2), -6);
        });
        edge("NO_VALUE is -2000000000", () -> {
            due("NO_VALUE", ReelBack.NO_VALUE, -2000000000);
            due("of no COST", new ReelBack().of(0, 0), -2000000000);
        });
    }

    // ---- what is refused

    private static void refusedOfDays() {
        edge("What is refused changes nothing", () -> {
            none("days(0)", x -> x.days(0));
            none("days(361)", x -> x.days(361));
            refused("days(1) on the last DAY", AnswerEdges::lastDay, NONE, x -> x.days(1));
            none("coin of LAND 6", x -> x.coin(6, 0, 5));
            none("coin of DAY 3600", x -> x.coin(0, 3600, 5));
            none("coin of DAY -1", x -> x.coin(0, -1, 5));
            none("coin of 0", x -> x.coin(0, 0, 0));
            none("coin of 100000", x -> x.coin(0, 0, 100000));
            none("house of LAND 6", x -> x.house(6));
            none("relate to itself", x -> x.relate(1, 1));
            none("relate to no HOUSE", x -> x.relate(1, 4));
            state("relate again", x -> x.relate(2, 0));
            none("film of no HOUSE", x -> x.film(4, 1));
            none("film of 0 EPISODES", x -> x.film(0, 0));
            none("film of 10 EPISODES", x -> x.film(0, 10));
            none("sell no FILM", x -> x.sell(3, 0));
            none("sell to no HOUSE", x -> x.sell(0, 4));
            none("sell to the same", x -> x.sell(0, 0));
            none("person of LAND -1", x -> x.person(-1));
            none("stay of no PERSON", x -> x.stay(4, 0, 0, 9));
            none("stay in LAND 6", x -> x.stay(0, 6, 0, 300));
            none("stay to 3600", x -> x.stay(0, 5, 0, 3600));
            none("stay from -1", x -> x.stay(0, 5, -1, 300));
            none("stay to a DAY ahead", x -> x.stay(0, 5, 300, 299));
            none("point of no FILM", x -> x.point(3, 0, 1));
            none("point in LAND 6", x -> x.point(0, 6, 1));
            none("point of 0", x -> x.point(0, 0, 0));
            none("point of 21", x -> x.point(0, 0, 21));
            none("prove nothing told", x -> x.prove(2));
            state("prove again", x -> x.prove(0));
        });
    }

    private static void refusedOfCosts() {
        edge("What is refused changes nothing", () -> {
            none("set(-1)", x -> x.set(-1, 5));
            none("set(7)", x -> x.set(7, 5));
            none("set to -1", x -> x.set(0, -1));
            none("set to 100000", x -> x.set(6, 100000));
            none("cost of KIND 0", x -> x.cost(0, 5));
            none("cost of KIND 7", x -> x.cost(7, 5));
            none("cost of 0", x -> x.cost(1, 0));
            none("cost of 100000", x -> x.cost(1, 100000));
            int[] bad = {3, 3, 6, 401, 4, 0, 20};
            for (int i = 0; i < bad.length; i++) {
                int what = i;
                World drafted = () -> {
                    ReelBack x = busy();
                    x.set(what, bad[what]);
                    return x;
                };
                refused("cost of a bad " + what, drafted, NONE, x -> x.cost(1, 5));
                refused("cost of a bad " + what, drafted, NONE, x -> x.cost(2, 5));
            }
            none("like of SORT 20", x -> x.like(20, 0, 0, 5));
            none("like in LAND 6", x -> x.like(0, 6, 0, 5));
            none("like of tomorrow", x -> x.like(0, 0, 401, 5));
            none("like of 0", x -> x.like(0, 0, 400, 0));
            none("like of 100000", x -> x.like(0, 0, 400, 100000));
            none("audit of no COST", x -> x.audit(6, 0));
            none("audit of -1", x -> x.audit(1, -1));
            none("audit of all COINS", x -> x.audit(1, 500));
            state("audit again", x -> x.audit(0, 20));
            state("audit again, right", x -> x.audit(5, 20));
            refused("act of no COST", AnswerEdges::busy, NO_VALUE, x -> x.act(6, 0, 0));
            refused("act 3", AnswerEdges::busy, NO_VALUE, x -> x.act(0, 3, 0));
            refused("act -1", AnswerEdges::busy, NO_VALUE, x -> x.act(0, -1, 0));
            refused("taken for another", AnswerEdges::busy, CAST, x -> x.taken(0, 2));
            refused("no LIKES", AnswerEdges::busy, NOT, x -> x.span(3, 3599, 0));
        });
    }

    private static void refusedOfTexts() {
        edge("What is refused changes nothing", () -> {
            none("feed(0)", x -> x.feed(0, '1'));
            none("feed(5)", x -> x.feed(5, '1'));
            none("text(-1)", x -> x.text(-1, 0));
            none("text(5)", x -> x.text(5, 0));
            none("text(60)", x -> x.text(60, 0));
            none("text from -1", x -> x.text(0, -1));
            none("text from 3600", x -> x.text(0, 3600));
            none("inForce(5)", x -> x.inForce(5, 0, 0));
            none("law of what 4", x -> x.law(0, 0, 0, 0, 4));
            none("tryText of no TEXT", x -> x.tryText(3));
            none("tryText of another USE", x -> x.tryText(2));
            refused("inForce of none", AnswerEdges::busy, NOT, x -> x.inForce(54, 3599, 3599));
        });
    }

    private static void refusedOfCertificates() {
        edge("What is refused changes nothing", () -> {
            none("cap of LAND 6", x -> x.cap(6, 0, 5));
            none("cap of YEAR 10", x -> x.cap(0, 10, 5));
            none("cap of YEAR -1", x -> x.cap(1, -1, 5));
            none("cap of -1", x -> x.cap(0, 0, -1));
            none("cap of 100000000", x -> x.cap(0, 1, 100000000));
            none("ask for no FILM", x -> x.ask(3, 0));
            none("ask in LAND 6", x -> x.ask(0, 6));
            state("ask again", x -> x.ask(0, 0));
            none("given of none", x -> x.given(4, -1));
            none("given in a YEAR to come", x -> x.given(0, 2));
            none("foretold of none", x -> x.foretold(4));
            none("loan on none", x -> x.loan(4, 0, 5, 0));
            none("loan of LENDER 20", x -> x.loan(0, 20, 5, 0));
            none("loan of 0", x -> x.loan(0, 0, 0, 0));
            none("loan of 100000000", x -> x.loan(0, 0, 100000000, 0));
            none("loan of RANK 3", x -> x.loan(0, 0, 5, 3));
            state("loan on a SETTLED one", x -> x.loan(2, 0, 5, 0));
            none("advance of none", x -> x.advance(4));
            state("advance again", x -> x.advance(0));
            state("advance of a SETTLED one", x -> x.advance(2));
            none("settle none", x -> x.settle(4));
            state("settle again", x -> x.settle(2));
            none("repaid of none", x -> x.repaid(3, 0));
        });
    }

    private static void refusedOfTreaties() {
        edge("What is refused changes nothing", () -> {
            none("move of 0", x -> x.move(0, 1));
            none("move of 10000", x -> x.move(10000, 1));
            none("move to no LAND", x -> x.move(1, 0));
            none("move to LANDS 64", x -> x.move(1, 64));
            none("split of no FILM", x -> x.split(3, 3, 0));
            none("split of one LAND", x -> x.split(0, 2, 0));
            none("split of four LANDS", x -> x.split(0, 15, 0));
            none("split by 51", x -> x.split(0, 3, 51));
            none("split by -1", x -> x.split(0, 3, -1));
            refused("split without a way", AnswerEdges::busy, NOT, x -> x.split(0, 3, 50));
            refused("split without a LAND", AnswerEdges::busy, NOT, x -> x.split(0, 48, 0));
            World empty = () -> {
                ReelBack x = busy();
                x.split(0, 3, 0);
                return x;
            };
            refused("split of an empty list", empty, STATE, x -> x.split(0, 3, 0));
            none("moved(2)", x -> x.moved(2));
            refused("gain of a above 100", AnswerEdges::busy, NO_VALUE, x -> x.gain(0, 1, 101000, 0, 0));
            none("draw of no FILM", x -> x.draw(3));
            refused("draw of none", AnswerEdges::busy, NOT, x -> x.draw(2));
            none("bound of no FILM", x -> x.bound(3));
            none("twice(3)", x -> x.twice(3));
            none("count(14)", x -> x.count(14));
            none("trace(24)", x -> x.trace(24));
        });
    }

    private static ReelBack lastDay() {
        ReelBack x = busy();
        years(x, 8);
        x.days(319);
        return x;
    }

    // ---- full ones

    private static ReelBack coinsFull() {
        ReelBack x = busy();
        for (int i = 2; i <= 20; i++) {
            x.coin(0, i, 1000 + i);
        }
        return x;
    }

    private static ReelBack housesFull() {
        ReelBack x = busy();
        for (int i = 4; i < 20; i++) {
            x.house(i % 6);
        }
        return x;
    }

    private static ReelBack filmsFull() {
        ReelBack x = busy();
        for (int i = 3; i < 20; i++) {
            x.film(i % 4, 1);
        }
        return x;
    }

    private static ReelBack personsFull() {
        ReelBack x = busy();
        for (int i = 4; i < 60; i++) {
            x.person(i % 6);
        }
        return x;
    }

    private static ReelBack staysFull() {
        ReelBack x = studio();
        for (int i = 0; i < 200; i++) {
            x.stay(i % 2, 2 + i % 4, i, i + 300);
        }
        return x;
    }

    private static ReelBack pointsFull() {
        ReelBack x = busy();
        for (int i = 2; i < 100; i++) {
            x.point(i % 3, i % 6, 1 + i % 20);
        }
        return x;
    }

    private static ReelBack costsFull() {
        ReelBack x = studio();
        wages(x, 0, 0, 5, 150);
        return x;
    }

    private static ReelBack likesFull() {
        ReelBack x = busy();
        for (int i = 2; i < 120; i++) {
            x.like(0, 0, 390, 100 + i);
        }
        return x;
    }

    private static ReelBack tapeFull() {
        ReelBack x = busy();
        x.feed(1, '+');
        for (int i = 1; i < 40; i++) {
            x.feed(4, '7' | '+' << 8 | '7' << 16 | '+' << 24);
        }
        return x;
    }

    private static ReelBack textsFull() {
        ReelBack x = busy();
        make(x, 0, 0, "");
        for (int i = 4; i < 20; i++) {
            make(x, i % 6 * 10 + i % 5, 0, "n");
        }
        feed(x, "5");
        return x;
    }

    private static ReelBack certificatesFull() {
        ReelBack x = studio();
        for (int film = 1; film <= 10; film++) {
            x.film(film % 2, 1);
        }
        for (int i = 0; i < 60; i++) {
            x.ask(i / 6, i % 6);
        }
        return x;
    }

    private static ReelBack loansFull() {
        ReelBack x = busy();
        for (int i = 3; i < 60; i++) {
            x.loan(i % 2, i % 20, i, i % 3);
        }
        return x;
    }

    private static ReelBack movesFull() {
        ReelBack x = busy();
        for (int i = 2; i < 9; i++) {
            x.move(i, 3);
        }
        return x;
    }

    private static void refusedWhenFull() {
        edge("What is refused changes nothing", () -> {
            refused("a 21st COIN", AnswerEdges::coinsFull, FULL, x -> x.coin(0, 0, 5));
            refused("a 21st HOUSE", AnswerEdges::housesFull, FULL, x -> x.house(0));
            refused("a 21st FILM", AnswerEdges::filmsFull, FULL, x -> x.film(0, 1));
            refused("a 61st PERSON", AnswerEdges::personsFull, FULL, x -> x.person(0));
            refused("a 201st STAY", AnswerEdges::staysFull, FULL, x -> x.stay(0, 5, 0, 3599));
            refused("101st POINTS", AnswerEdges::pointsFull, FULL, x -> x.point(0, 0, 1));
            refused("a 151st COST", AnswerEdges::costsFull, FULL, x -> x.cost(1, 5));
            refused("BOUND of 150", AnswerEdges::costsFull, BIG, x -> x.bound(0));
            refused("a 121st LIKE", AnswerEdges::likesFull, FULL, x -> x.like(0, 0, 390, 1));
            refused("a 161st byte", AnswerEdges::tapeFull, FULL, x -> x.feed(1, '1'));
            refused("four bytes more", AnswerEdges::tapeFull, FULL, x -> x.feed(4, '1'));
            refused("a 21st TEXT", AnswerEdges::textsFull, FULL, x -> x.text(0, 0));
            refused("a 61st CERTIFICATE", AnswerEdges::certificatesFull, FULL, x -> x.ask(10, 0));
            refused("a 61st LOAN", AnswerEdges::loansFull, FULL, x -> x.loan(0, 0, 5, 0));
            refused("a tenth movable COST", AnswerEdges::movesFull, FULL, x -> x.move(1, 1));
        });
    }

    // ---- asking, and memory

    private static void asked(String what, Call call) {
        same("what is seen behind " + what, looks(AnswerEdges::busy, call), looks(AnswerEdges::busy, null));
    }

    private static void askingChangesNothing() {
        edge("What is refused changes nothing", () -> {
            asked("coinOn", x -> x.coinOn(0, 400));
            asked("lives", x -> x.lives(0, 1, 400, 400));
            asked("points", x -> x.points(0, 0, 400));
            asked("of", x -> x.of(0, 4));
            asked("span", x -> x.span(1, 400, 2));
            asked("counted", x -> x.counted(1, 400, 3));
            asked("base", x -> x.base(0, 0, -1, 400, 1));
            asked("inForce", x -> x.inForce(0, 400, 400));
            asked("law", x -> x.law(0, 0, 400, 400, 1));
            asked("given", x -> x.given(3, -1));
            asked("foretold", x -> x.foretold(1));
            asked("repaid", x -> x.repaid(0, 0));
            asked("got", x -> x.got(0));
            asked("moved", x -> x.moved(0));
            asked("without", x -> x.without());
            asked("gain", x -> x.gain(0, 1, 50060, 20, 0));
            asked("bound", x -> x.bound(0));
            asked("tryText", x -> x.tryText(0));
            asked("twice", x -> x.twice(0));
            asked("trace", x -> x.trace(0));
            asked("taken", x -> x.taken(0, 0));
        });
    }

    private static void ownMemory() {
        edge("All memory is the class's own", () -> {
            String fresh = looks(ReelBack::new, null);
            String before = looks(AnswerEdges::busy, null);
            ReelBack first = busy();
            ReelBack second = new ReelBack();
            due("a new one beside a busy one", second.count(4), 0);
            second.house(5);
            second.days(7);
            due("a busy one beside it", first.count(3), 400);
            due("its HOUSES", first.count(0), 4);
            same("a new one behind busy ones", looks(ReelBack::new, null), fresh);
            same("a busy one behind others", looks(AnswerEdges::busy, null), before);
        });
    }
}
