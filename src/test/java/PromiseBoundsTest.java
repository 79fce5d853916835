/** Promises 1 to 24: a test for each sentence that names a bound, an edge or a refusal. */
public final class PromiseBoundsTest {
    public static void main(String[] args) throws Exception {
        Due.runAll(PromiseBoundsTest.class, "promise");
        Due.end();
    }

    private static Bound bound(int promise, String sentence) {
        return new Bound(promise, sentence);
    }

    private static String lend(int home, int work) {
        return "wish " + home + " " + work + "; offer " + work + " taken = true; told " + work + " 1 = " + home;
    }

    /** WORK 0 in a STORE, 1 LENT to HOME 0, 2 SOLD to it, 3 LOST by it; HOME 1 has nothing. Each is worth 100. */
    private static Bound oneOfEach(int promise, String sentence) {
        return bound(promise, sentence)
            .run("home 0 100; home 1 100; work 0 100 0; work 1 100 0; work 2 100 0; work 3 100 0")
            .run(lend(0, 1) + ";" + lend(0, 2) + ";" + lend(0, 3) + "; sell 2 = 100; lose 3; homed 0 2 = 202");
    }

    // ---- what it is

    private static void promise1TheLastCalls() {
        Bound b = bound(1, "An object is used for at most 512 calls");
        int calls = 0;
        for (int home = 0; home < 20; home++, calls++) {
            b.run("home 0 1000 = " + home);
        }
        for (int work = 0; work < 10; work++, calls++) {
            b.run("work 0 20 0 = " + work);
        }
        for (int wish = 0; wish < 200; wish++, calls++) {
            b.run("wish " + wish % 20 + " " + wish / 20 + " = " + wish);
        }
        for (int look = 1; calls < 511; look++, calls++) {
            b.run("look 0 65535 = " + look);
        }
        b.run("offer 9 taken = true");
    }

    // ---- 1: a new object

    private static void promise1Nothing() {
        Bound b = bound(1, "No HOMES, no WORKS, no RULES; NOW is 0");
        for (int what = 0; what <= 8; what++) {
            b.run("count " + what + " = 0");
        }
        for (int what = 0; what <= 7; what++) {
            b.run("told 0 " + what + " = NONE; homed 0 " + what + " = NONE; wished 0 " + what + " = NONE");
        }
        for (int artist = 0; artist <= 9; artist++) {
            b.run("artist " + artist + " = 0");
        }
        b.run("rank 0 = NONE; next 0 = NONE; blame 0 0 = NONE; planned 0 = NONE; miles = NONE");
    }

    private static void promise1NothingCanBeDoneYet() {
        bound(1, "No HOMES, no WORKS")
            .refused("wish 0 0; unwish 0; offer 0 taken; offer 0 refused; back 0; sell 0; lose 0; pay 0 1; look 0 0");
    }

    private static void promise1NoRules() {
        Bound b = bound(1, "no RULES");
        for (int i = 0; i < 60; i++) {
            b.run("rule 0 90 0 = true");
        }
        b.refused("rule 0 90 0");
    }

    private static void promise1ObjectsShareNothing() {
        bound(1, "No HOMES, no WORKS, no RULES; NOW is 0")
            .run("go 9; home 0 9; work 0 20 0; rule 0 9000090 99100; far 0 1 9; wish 0 0; offer 0 taken; look 0 1;"
                + "go 1; sell 0");
        bound(1, "No HOMES, no WORKS, no RULES; NOW is 0")
            .run("count 0 = 0; count 1 = 0; count 2 = 0; count 3 = 0; count 5 = 0; count 6 = 0; count 7 = 0;"
                + "count 8 = 0; artist 0 = 0")
            .run("home 1 9 = 0; work 0 20 0 = 0; wish 0 0 = 0; go 1 = 1; rank 0 = 1; offer 0 taken; count 5 = 0;"
                + "look 0 1 = 1; back 0 = 0");
    }

    // ---- 2: far

    private static void promise2NoSuchTown() {
        bound(2, "false if there is no such TOWN")
            .run("far 0 3 5 = true; far 3 0 6 = true")
            .refused("far -1 0 5; far 4 0 5; far 0 -1 5; far 0 4 5; far MIN 0 5; far MAX 0 5; far 0 MIN 5; far 0 MAX 5;"
                + "far 4 4 5; far -1 -1 5")
            .run("home 3 9; work 0 20 0;" + lend(0, 0) + "; count 5 = 6");
    }

    private static void promise2BothAreOne() {
        bound(2, "false if ... both are one")
            .refused("far 0 0 5; far 1 1 5; far 2 2 5; far 3 3 5; far 0 0 0; far 3 3 500")
            .run("home 0 9; work 0 20 0; wish 0 0; miles = 0; offer 0 taken; count 5 = 0");
    }

    private static void promise2MilesThatCannotBe() {
        bound(2, "false if ... it can't be")
            .run("far 0 1 0 = true; far 0 1 500 = true; home 1 9; work 0 20 0; work 0 20 0")
            .refused("far 0 1 501; far 1 0 501; far 0 1 -1; far 1 0 -1; far 0 1 MAX; far 0 1 MIN")
            .run(lend(0, 0) + "; count 5 = 500; far 1 0 0 = true;" + lend(0, 1) + "; count 5 = 500");
    }

    private static void promise2ToldAnew() {
        Bound b = bound(2, "FAR: true").run("home 1 9; work 0 20 0; wish 0 0");
        for (int miles = 0; miles <= 100; miles++) {
            b.run("far 0 1 " + 5 * miles + " = true; miles = " + 5 * miles);
        }
        b.run("far 1 0 3 = true; miles = 3");
    }

    // ---- 3: home

    private static void promise3NoSuchTown() {
        bound(3, "NONE if there is no such TOWN")
            .refused("home -1 9; home 4 9; home MIN 9; home MAX 9")
            .run("count 1 = 0; home 0 9 = 0; home 3 9 = 1");
    }

    private static void promise3LimitThatCannotBe() {
        bound(3, "NONE if ... LIMIT can't be")
            .refused("home 0 -1; home 0 1001; home 0 MIN; home 0 MAX")
            .run("count 1 = 0; home 0 0 = 0; home 0 1000 = 1; count 1 = 2");
    }

    private static void promise3TwentyCame() {
        Bound b = bound(3, "NONE if ... 20 came").run("work 0 20 0");
        for (int home = 0; home < 20; home++) {
            b.run("home 3 " + home + " = " + home);
        }
        b.refused("home 0 9; home 3 1000; home 0 0")
            .run("count 1 = 20; homed 19 0 = 3; homed 20 0 = NONE; wish 20 0 = NONE; pay 20 1 = NONE; wish 19 0 = 0;"
                + "next 0 = 0");
    }

    // ---- 4: work

    private static void promise4NoSuchArtist() {
        bound(4, "NONE if there is no such ARTIST")
            .refused("work -1 100 0; work 10 100 0; work MIN 100 0; work MAX 100 0")
            .run("count 2 = 0; work 0 100 0 = 0; work 9 100 0 = 1");
    }

    private static void promise4NoSuchTown() {
        bound(4, "NONE if there is no such ... TOWN")
            .refused("work 0 100 -1; work 0 100 4; work 0 100 MIN; work 0 100 MAX")
            .run("count 2 = 0; work 0 100 0 = 0; work 0 100 3 = 1; told 1 2 = 3");
    }

    private static void promise4WorthThatCannotBe() {
        bound(4, "NONE if ... WORTH can't be")
            .refused("work 0 19 0; work 0 4001 0; work 0 0 0; work 0 -20 0; work 0 MIN 0; work 0 MAX 0")
            .run("count 2 = 0; work 0 20 0 = 0; work 0 4000 0 = 1");
    }

    private static void promise4FortyCame() {
        Bound b = bound(4, "NONE if ... 40 came").run("home 0 9");
        for (int work = 0; work < 40; work++) {
            b.run("work 9 20 3 = " + work);
        }
        b.refused("work 0 20 0; work 9 4000 3")
            .run("count 2 = 40; told 39 2 = 3; told 40 0 = NONE; wish 0 40 = NONE; look 40 0 = NONE; next 40 = NONE;"
                + "planned 40 = NONE; wish 0 39 = 0; next 39 = 0");
    }

    // ---- 5: rule

    private static void promise5NoSuchDay() {
        bound(5, "False if there is no such DAY")
            .refused("rule -1 9000090 0; rule 20001 9000090 0; rule MIN 9000090 0; rule MAX 9000090 0")
            .run("home 0 9; work 0 20 0; wish 0 0; go 1; rank 0 = 1; rule 20000 9000090 0 = true; rank 0 = 1;"
                + "rule 0 8000090 0 = true; rank 0 = 8");
    }

    private static void promise5WhatCannotBe() {
        bound(5, "False if ... it can't be")
            .run("home 0 9; work 0 20 0; wish 0 0; go 1")
            .refused("rule 0 0 0; rule 0 401 0; rule 0 9999 0; rule 0 10000 0; rule 0 9990000 0; rule 0 9990401 0;"
                + "rule 0 9999999 0; rule 0 1000500 0")
            .refused("rule 0 10000000 0; rule 0 10000001 0; rule 0 10000400 0; rule 0 -1 0; rule 0 -90 0;"
                + "rule 0 -999910 0; rule 0 -9999 0; rule 0 MIN 0; rule 0 MAX 0")
            .run("rank 0 = 1; rule 0 9990400 0 = true; rank 0 = 9; rule 0 1 0 = true; rank 0 = 0");
    }

    private static void promise5CoinsThatCannotBe() {
        bound(5, "False if ... it can't be")
            .run("home 0 1000; work 0 4000 0")
            .refused("rule 0 90 101; rule 0 90 999; rule 0 90 99101; rule 0 90 99999; rule 0 90 100000;"
                + "rule 0 90 100100; rule 0 90 -1; rule 0 90 -900; rule 0 90 -1000; rule 0 90 MIN; rule 0 90 MAX")
            .run(lend(0, 0) + "; back 0 = 40; artist 0 = 0; rule 0 90 99100 = true;" + lend(0, 0) + "; back 0 = 396;"
                + "artist 0 = 396")
            .run("rule 0 90 0 = true;" + lend(0, 0) + "; back 0 = 0; artist 0 = 396; rule 0 90 100 = true;"
                + "rule 0 90 1000 = true;" + lend(0, 0) + "; back 0 = 4; artist 0 = 396");
    }

    private static void promise5WhatIsRead() {
        bound(5, "What is AGE * 1000000 + REST * 100000 + KEEP * 10000 + TERM; coins RATE * 1000 + PART")
            .run("rule 0 2310005 40025; home 0 1000; work 0 1000 0; wish 0 0; go 30; rank 0 = 63; offer 0 refused;"
                + "wished 0 2 = 1; go 1; offer 0 refused; wished 0 2 = 0; wished 0 1 = 31")
            .run("go 1; offer 0 taken; go 5; told 0 4 = 0; go 1; told 0 4 = 1; back 0 = 40; artist 0 = 10");
    }

    private static void promise5SixtyWereTold() {
        Bound b = bound(5, "False if ... 60 were told")
            .run("home 0 9; work 0 20 0; wish 0 0; go 1")
            .refused("rule 0 0 0; rule -1 90 0");
        for (int i = 0; i < 59; i++) {
            b.run("rule 0 2000090 0 = true");
        }
        b.run("rank 0 = 2; rule 0 3000090 0 = true; rank 0 = 3")
            .refused("rule 0 9000090 0; rule 1 9000090 0; rule 20000 9000090 0")
            .run("rank 0 = 3; go 1; rank 0 = 6");
    }

    // ---- 6: go

    private static void promise6DaysAtOnce() {
        bound(6, "NOW is n DAYS later (0 .. 1000; ...): NOW; NONE for another n")
            .refused("go -1; go 1001; go MIN; go MAX")
            .run("count 0 = 0; go 0 = 0; go 1 = 1; go 999 = 1000; go 1000 = 2000")
            .refused("go -1; go 1001; go MIN; go MAX; go 20000; go -2000")
            .run("count 0 = 2000");
    }

    private static void promise6TheLastDay() {
        Bound b = bound(6, "20000 at most");
        for (int i = 0; i < 19; i++) {
            b.run("go 1000");
        }
        b.run("go 999 = 19999; go 0 = 19999; go 1 = 20000; go 0 = 20000")
            .refused("go -1; go 1001; go MAX")
            .run("count 0 = 20000");
    }

    private static void promise6BeyondTheLastDay() {
        Bound b = bound(6, "20000 at most").run("home 0 9; work 0 20 0; wish 0 0");
        for (int i = 0; i < 19; i++) {
            b.run("go 1000");
        }
        b.run("go 999 = 19999; go 2 = 20000; count 0 = 20000; go 1 = 20000; go 1000 = 20000; count 0 = 20000;"
            + "rank 0 = 20000; told 0 6 = 20000");
    }

    private static void promise6BeyondTheLastDayByFar() {
        Bound b = bound(6, "20000 at most").run("go 1");
        for (int i = 1; i < 20; i++) {
            b.run("go 1000");
        }
        b.run("count 0 = 19001; go 1000 = 20000");
    }

    // ---- 7: wish

    private static void promise7NoSuchHomeOrWork() {
        bound(7, "NONE if there is no such HOME or WORK")
            .run("home 0 9; home 0 9; work 0 20 0; work 0 20 0")
            .refused("wish -1 0; wish 2 0; wish MIN 0; wish MAX 0; wish 0 -1; wish 0 2; wish 0 MIN; wish 0 MAX;"
                + "wish 2 2; wish -1 -1")
            .run("count 3 = 0; count 4 = 0; wish 1 1 = 0; wish 0 0 = 1");
    }

    private static void promise7SoldOrLost() {
        oneOfEach(7, "NONE if ... the WORK is SOLD or LOST")
            .refused("wish 0 2; wish 1 2; wish 0 3; wish 1 3")
            .run("count 3 = 3; count 4 = 0; wish 1 0 = 3; wish 1 1 = 4");
    }

    private static void promise7LentToThatHome() {
        oneOfEach(7, "NONE if ... the WORK is ... LENT to that HOME")
            .refused("wish 0 1")
            .run("count 3 = 3; wish 1 1 = 3; back 1; wish 0 1 = 4; next 1 = 3");
    }

    private static void promise7AnOpenOne() {
        bound(7, "NONE if ... they have an OPEN one for it")
            .run("home 0 9; home 0 9; work 0 20 0; work 0 20 0; wish 0 0 = 0")
            .refused("wish 0 0")
            .run("wish 0 1 = 1; wish 1 0 = 2")
            .refused("wish 0 0; wish 1 0; wish 0 1")
            .run("unwish 0; wish 0 0 = 3")
            .refused("wish 0 0")
            .run("offer 0 taken; told 0 1 = 1; wished 2 0 = 1")
            .refused("wish 0 0")
            .run("back 0; wish 1 0 = 4; wished 3 0 = 0");
    }

    private static void promise7RefusedOfferStaysOpen() {
        bound(7, "NONE if ... they have an OPEN one for it")
            .run("home 0 9; work 0 20 0; wish 0 0 = 0; go 3; offer 0 refused")
            .refused("wish 0 0")
            .run("wished 0 1 = 3; count 3 = 1");
    }

    private static void promise7RoomIsNotAsked() {
        bound(7, "A WISH: its number")
            .run("home 0 0; work 0 4000 0; wish 0 0 = 0; wished 0 0 = 0; next 0 = NONE; rank 0 = 0; count 4 = 1");
    }

    private static void promise7TwoHundredCame() {
        Bound b = bound(7, "NONE if ... 200 came");
        for (int i = 0; i < 20; i++) {
            b.run("home 0 1000; work 0 20 0");
        }
        b.refused("wish 20 0; wish 0 20");
        for (int wish = 0; wish < 200; wish++) {
            b.run("wish " + wish / 10 + " " + wish % 10 + " = " + wish);
        }
        b.refused("wish 0 10; wish 19 19; wish 0 0")
            .run("count 3 = 200; count 4 = 200; next 10 = NONE; wished 200 0 = NONE; unwish 199; unwish 0;"
                + "offer 1 taken; back 1")
            .refused("wish 19 9; wish 0 0; wish 0 1; wish 0 10")
            .run("count 3 = 200; count 4 = 197");
    }

    // ---- 8: unwish

    private static void promise8NoneSuch() {
        bound(8, "false if there is none such OPEN")
            .run("home 0 9; work 0 20 0")
            .refused("unwish 0; unwish -1")
            .run("wish 0 0")
            .refused("unwish 1; unwish -1; unwish MIN; unwish MAX")
            .run("count 4 = 1; unwish 0 = true; wished 0 0 = 2; count 4 = 0; count 3 = 1");
    }

    private static void promise8NoneOpen() {
        bound(8, "false if there is none such OPEN")
            .run("home 0 9; home 0 9; work 0 20 0; wish 0 0; wish 1 0; unwish 0 = true")
            .refused("unwish 0")
            .run("offer 0 taken")
            .refused("unwish 1; unwish 0")
            .run("wished 0 0 = 2; wished 1 0 = 1; told 0 0 = 1; wish 0 0; sell 0")
            .refused("unwish 2")
            .run("wished 2 0 = 2");
    }

    private static void promise8WhatGoesIsNotNext() {
        bound(8, "A WISH goes: true")
            .run("home 0 9; home 0 9; work 0 20 0; wish 0 0; wish 1 0; unwish 0; next 0 = 1; planned 0 = 1; unwish 1;"
                + "next 0 = NONE; planned 0 = NONE")
            .refused("offer 0 taken; offer 0 refused");
    }

    // ---- 9: rank

    private static void promise9NoneSuchOpen() {
        bound(9, "NONE if there is no such WISH OPEN")
            .run("home 0 9; home 0 9; work 0 20 0; rank 0 = NONE; wish 0 0; wish 1 0; go 2; rank 0 = 2; rank -1 = NONE;"
                + "rank 2 = NONE; rank MIN = NONE; rank MAX = NONE")
            .run("unwish 0; rank 0 = NONE; offer 0 taken; rank 1 = NONE; wish 0 0; go 1; rank 2 = 1; lose 0;"
                + "rank 2 = NONE");
    }

    private static void promise9NeitherRoomNorStoreIsAsked() {
        bound(9, "RANK NOW")
            .run("home 0 9; home 0 0; work 0 20 0; wish 0 0; wish 1 0; offer 0 taken; go 4; rank 1 = 4; next 0 = NONE");
    }

    // ---- 10: next

    private static void promise10NoneOrNotInAStore() {
        oneOfEach(10, "NONE if there is none, the WORK isn't in a STORE, or there is none such")
            .run("next 0 = NONE; wish 1 0; wish 1 1; next 0 = 3; next 1 = NONE; next 2 = NONE; next 3 = NONE;"
                + "next 4 = NONE; next -1 = NONE; next MIN = NONE; next MAX = NONE; back 1; next 1 = 4");
    }

    private static void promise10OfThatWorkAlone() {
        bound(10, "of its OPEN WISHES")
            .run("home 0 9; home 0 9; work 0 20 0; work 0 20 0; wish 0 1; go 5; wish 1 0; next 0 = 1; next 1 = 0");
    }

    // ---- 11: offer

    private static void promise11None() {
        oneOfEach(11, "false if there is none")
            .refused("offer 0 taken; offer 0 refused; offer 1 taken; offer 1 refused; offer 2 taken; offer 2 refused;"
                + "offer 3 taken; offer 3 refused")
            .refused("offer 4 taken; offer 4 refused; offer -1 taken; offer -1 refused; offer MIN taken;"
                + "offer MAX refused")
            .run("wish 1 1")
            .refused("offer 1 taken; offer 1 refused")
            .run("wished 3 2 = 0; told 1 1 = 0; back 1; offer 1 taken = true; told 1 1 = 1");
    }

    private static void promise11NoRoomOrRefusedToday() {
        bound(11, "false if there is none")
            .run("rule 0 1050090 0; home 0 1; home 0 9; work 0 40 0; wish 0 0")
            .refused("offer 0 taken; offer 0 refused")
            .run("wish 1 0; offer 0 refused = true")
            .refused("offer 0 taken; offer 0 refused")
            .run("wished 0 2 = 0; wished 1 2 = 1; told 0 5 = 0; go 1; offer 0 taken = true; told 0 1 = 1;"
                + "wished 1 2 = 1");
    }

    // ---- 12, 13, 14: back, sell, lose

    private static void promise12NotLentOrNoneSuch() {
        oneOfEach(12, "NONE if it isn't LENT, or there is none such")
            .refused("back 0; back 2; back 3; back 4; back -1; back MIN; back MAX")
            .run("back 1 = 1; homed 0 2 = 203")
            .refused("back 1")
            .run("homed 0 2 = 203; count 6 = 3");
    }

    private static void promise12NoRent() {
        bound(12, "the RENT")
            .run("rule 0 90 0; home 0 9; work 0 20 0;" + lend(0, 0) + "; back 0 = 0; told 0 0 = 0")
            .refused("back 0");
    }

    private static void promise13NotLentOrNoneSuch() {
        oneOfEach(13, "NONE likewise")
            .refused("sell 0; sell 2; sell 3; sell 4; sell -1; sell MIN; sell MAX")
            .run("count 7 = 100; wish 1 0; wish 1 1")
            .refused("sell 0")
            .run("wished 3 0 = 0; sell 1 = 100; wished 4 0 = 2; count 7 = 200; homed 0 2 = 303")
            .refused("sell 1; back 1; lose 1")
            .run("homed 0 2 = 303");
    }

    private static void promise13ToTheHomeThatHasIt() {
        bound(13, "SOLD to the HOME that has it")
            .run("rule 0 90 0; home 0 9; home 0 9; work 0 20 0; wish 0 0; wish 1 0; offer 0 taken; back 0;"
                + "offer 0 taken; sell 0 = 20; told 0 1 = 1; homed 0 2 = 0; homed 1 2 = 20; homed 1 3 = 0;"
                + "homed 1 1 = 0");
    }

    private static void promise14NotLentOrNoneSuch() {
        oneOfEach(14, "false likewise")
            .refused("lose 0; lose 2; lose 3; lose 4; lose -1; lose MIN; lose MAX")
            .run("wish 1 0; wish 1 1")
            .refused("lose 0")
            .run("wished 3 0 = 0; lose 1 = true; wished 4 0 = 2; homed 0 2 = 303; count 7 = 100")
            .refused("lose 1; sell 1; back 1")
            .run("homed 0 2 = 303; told 1 1 = 0");
    }

    // ---- 15: pay

    private static void promise15NoneSuch() {
        oneOfEach(15, "NONE if there is none such")
            .refused("pay -1 1; pay 2 1; pay MIN 1; pay MAX 1")
            .run("homed 0 2 = 202; pay 0 1 = 201");
    }

    private static void promise15OneToAsMuch() {
        oneOfEach(15, "n isn't 1 .. as much")
            .refused("pay 0 0; pay 0 -1; pay 0 203; pay 0 MIN; pay 0 MAX")
            .run("pay 0 1 = 201")
            .refused("pay 0 202; pay 0 0")
            .run("pay 0 200 = 1")
            .refused("pay 0 2; pay 0 0")
            .run("pay 0 1 = 0")
            .refused("pay 0 1; pay 0 0; pay 0 -1")
            .run("homed 0 2 = 0; homed 0 4 = 2; count 6 = 2; count 7 = 100");
    }

    private static void promise15AllAtOnce() {
        oneOfEach(15, "n isn't 1 .. as much").run("pay 0 202 = 0").refused("pay 0 1");
    }

    private static void promise15WhoOwesNothing() {
        oneOfEach(15, "n isn't 1 .. as much")
            .refused("pay 1 1; pay 1 0; pay 1 202; pay 1 -1")
            .run("homed 1 2 = 0; homed 0 2 = 202");
    }

    // ---- 16: look

    private static void promise16NoSuchWork() {
        bound(16, "NONE if there is no such WORK")
            .refused("look 0 0")
            .run("work 0 20 0")
            .refused("look 1 0; look -1 0; look MIN 0; look MAX 0")
            .run("count 8 = 0; look 0 0 = 1; count 8 = 1");
    }

    private static void promise16SoldOrLost() {
        oneOfEach(16, "NONE if ... it is SOLD or LOST")
            .refused("look 2 1; look 3 1")
            .run("blame 2 0 = NONE; blame 3 0 = NONE; look 0 1 = 1; look 1 1 = 1; look 1 1 = 2; count 8 = 3");
    }

    private static void promise16Marks() {
        bound(16, "NONE if ... MARKS aren't 0 .. 65535")
            .run("work 0 20 0; look 0 0 = 1")
            .refused("look 0 -1; look 0 65536; look 0 MIN; look 0 MAX")
            .run("blame 0 0 = NONE; blame 0 15 = NONE; look 0 65535 = 2; blame 0 15 = DOUBT")
            .refused("look 0 65536; look 0 -1")
            .run("blame 0 0 = DOUBT; count 8 = 2");
    }

    private static void promise16ThreeHundredWere() {
        Bound b = oneOfEach(16, "NONE if ... 300 were").refused("look 2 0");
        for (int i = 1; i <= 299; i++) {
            b.run("look 0 1 = " + i);
        }
        b.run("look 1 2 = 1")
            .refused("look 0 0; look 1 0; look 1 65535")
            .run("count 8 = 300; blame 0 0 = DOUBT; blame 1 1 = DOUBT; blame 1 0 = NONE");
    }

    private static void promise16HowManyThatWorkHad() {
        bound(16, "A LOOK: how many the WORK had")
            .run("work 0 20 0; work 0 20 0; look 0 0 = 1; look 0 0 = 2; look 1 0 = 1; look 0 0 = 3; look 1 0 = 2;"
                + "count 8 = 5");
    }

    // ---- 17: blame

    private static void promise17NoneSuch() {
        bound(17, "NONE if there is none such in the latest LOOK")
            .run("work 0 20 0; blame 0 0 = NONE; look 0 65535; blame 0 0 = DOUBT; blame 0 15 = DOUBT;"
                + "blame 0 16 = NONE; blame 0 -1 = NONE; blame 0 31 = NONE; blame 0 32 = NONE; blame 0 47 = NONE;"
                + "blame 0 MIN = NONE; blame 0 MAX = NONE; blame 0 -16 = NONE")
            .run("blame 1 0 = NONE; blame -1 0 = NONE; blame MIN 0 = NONE; blame MAX 0 = NONE; look 0 0;"
                + "blame 0 0 = NONE");
    }

    private static void promise17Doubt() {
        bound(17, "-2 in DOUBT")
            .run("home 0 9; work 0 20 0; look 0 1; blame 0 0 = -2; blame 0 1 = -1; look 0 3;"
                + "blame 0 1 = -2;" + lend(0, 0) + "; look 0 7; blame 0 2 = 0");
    }

    // ---- 18, 19: planned, miles

    private static void promise18NoneOrNotAsked() {
        oneOfEach(18, "NONE if none, or it can't be asked")
            .run("planned 0 = NONE; wish 1 0; wish 1 1; planned 0 = 3; planned 1 = NONE; planned 2 = NONE;"
                + "planned 3 = NONE; planned 4 = NONE; planned -1 = NONE; planned MIN = NONE; planned MAX = NONE");
    }

    private static void promise19NotAsked() {
        oneOfEach(19, "NONE if it can't be asked")
            .run("miles = NONE; wish 1 1; miles = NONE; wish 1 0; miles = 0; far 0 1 500; miles = 500; unwish 4;"
                + "miles = NONE");
    }

    // ---- 20: told

    private static void promise20Others() {
        oneOfEach(20, "NONE for others, or if there is none such")
            .run("told 0 -1 = NONE; told 0 8 = NONE; told 0 MIN = NONE; told 0 MAX = NONE; told 0 7 = 5; told 0 0 = 0;"
                + "told -1 0 = NONE; told 4 0 = NONE; told 4 7 = NONE; told MIN 0 = NONE; told MAX 5 = NONE;"
                + "told 3 7 = 5");
    }

    private static void promise20TheHome() {
        oneOfEach(20, "1 the HOME to which it is LENT or SOLD, or by which it was LOST (NONE)")
            .run("told 0 1 = NONE; told 1 1 = 0; told 2 1 = 0; told 3 1 = 0; back 1;"
                + "told 1 1 = NONE;" + lend(1, 1) + "; lose 1; told 1 1 = 1;" + lend(1, 0) + "; sell 0; told 0 1 = 1");
    }

    private static void promise20TheTown() {
        oneOfEach(20, "2 the TOWN of its STORE (NONE)")
            .run("told 0 2 = 0; told 1 2 = NONE; told 2 2 = NONE; told 3 2 = NONE;" + lend(1, 0) + "; told 0 2 = NONE;"
                + "back 0; told 0 2 = 1");
    }

    private static void promise20TheDay() {
        oneOfEach(20, "3 the DAY on which it was LENT (NONE, if it isn't)")
            .run("go 6; told 0 3 = NONE; told 1 3 = 0; told 2 3 = NONE; told 3 3 = NONE;" + lend(1, 0) + "; go 1;"
                + "told 0 3 = 6; back 0; told 0 3 = NONE;" + lend(1, 0) + "; told 0 3 = 7");
    }

    private static void promise20Late() {
        oneOfEach(20, "4 LATE (0)")
            .run("go 90; told 1 4 = 0; go 1; told 0 4 = 0; told 1 4 = 1; told 2 4 = 0; told 3 4 = 0; back 1;"
                + "told 1 4 = 0;" + lend(1, 1) + "; told 1 4 = 0; go 100; told 1 4 = 10; sell 1;"
                + "told 1 4 = 0;" + lend(1, 0) + "; go 91; told 0 4 = 1; lose 0; told 0 4 = 0");
    }

    private static void promise20HowOften() {
        oneOfEach(20, "5 how often it was LENT")
            .run("told 0 5 = 0; told 1 5 = 1; told 2 5 = 1; told 3 5 = 1; wish 1 0; offer 0 refused; told 0 5 = 0;"
                + "go 1; offer 0 taken; told 0 5 = 1; back 0; told 0 5 = 1;" + lend(1, 0) + "; told 0 5 = 2");
    }

    private static void promise20DaysInStores() {
        bound(20, "6 DAYS in STORES ever")
            .run("home 1 9; go 5; work 0 20 0; told 0 6 = 0; go 1; told 0 6 = 1; go 2; told 0 6 = 3;" + lend(0, 0) + ";"
                + "told 0 6 = 3; go 9; told 0 6 = 3; back 0; told 0 6 = 3; go 4; told 0 6 = 7")
            .run(lend(0, 0) + "; back 0; told 0 6 = 7;" + lend(0, 0) + "; go 1; sell 0; go 50; told 0 6 = 7;"
                + "work 0 20 0; go 2;" + lend(0, 1) + "; lose 1; go 3; told 1 6 = 2");
    }

    private static void promise20Points() {
        oneOfEach(20, "7 its POINTS").run("told 0 7 = 5; told 1 7 = 5; told 2 7 = 5; told 3 7 = 5");
    }

    // ---- 21: homed

    private static void promise21Others() {
        oneOfEach(21, "NONE for others, or if there is none such")
            .run("homed 0 -1 = NONE; homed 0 5 = NONE; homed 0 MIN = NONE; homed 0 MAX = NONE; homed 0 4 = 2;"
                + "homed 1 0 = 1; homed 2 0 = NONE; homed 2 4 = NONE; homed -1 0 = NONE; homed MIN 0 = NONE;"
                + "homed MAX 0 = NONE");
    }

    private static void promise21NothingYet() {
        oneOfEach(21, "0 TOWN, 1 POINTS of what it has, 2 what it OWES, 3 how many WORKS ... 4 all RENTS ever")
            .run("homed 1 0 = 1; homed 1 1 = 0; homed 1 2 = 0; homed 1 3 = 0; homed 1 4 = 0");
    }

    private static void promise21WhatItHas() {
        oneOfEach(21, "1 POINTS of what it has ... 3 how many WORKS are LENT to it")
            .run("homed 0 1 = 5; homed 0 3 = 1;" + lend(0, 0) + "; homed 0 1 = 10; homed 0 3 = 2; back 1;"
                + "homed 0 1 = 5; homed 0 3 = 1; sell 0; homed 0 1 = 0; homed 0 3 = 0;" + lend(1, 1) + ";"
                + "homed 1 1 = 5; homed 1 3 = 1; lose 1; homed 1 1 = 0; homed 1 3 = 0");
    }

    private static void promise21AllRentsEver() {
        oneOfEach(21, "2 what it OWES ... 4 all RENTS ever")
            .run("homed 0 2 = 202; homed 0 4 = 2; pay 0 202; homed 0 2 = 0; homed 0 4 = 2; back 1; homed 0 2 = 1;"
                + "homed 0 4 = 3; homed 1 4 = 0");
    }

    // ---- 22: wished

    private static void promise22Others() {
        oneOfEach(22, "NONE for others, or if there is none such")
            .run("wished 0 -1 = NONE; wished 0 3 = NONE; wished 0 MIN = NONE; wished 0 MAX = NONE; wished 0 2 = 0;"
                + "wished 2 0 = 1; wished 3 0 = NONE; wished 3 2 = NONE; wished -1 0 = NONE; wished MIN 0 = NONE;"
                + "wished MAX 0 = NONE");
    }

    private static void promise22OfOnesThatAreNotOpen() {
        bound(22, "0 how it is, 1 the DAY since which it stands, 2 REFUSALS")
            .run("rule 0 1030090 0; home 0 9; home 0 9; work 0 20 0; go 2; wish 0 0; go 1; offer 0 refused; wish 1 0;"
                + "unwish 0; wished 0 0 = 2; wished 0 1 = 2; wished 0 2 = 1")
            .run("offer 0 taken; go 5; wished 1 0 = 1; wished 1 1 = 3; wished 1 2 = 0");
    }

    // ---- 23: artist

    private static void promise23NoneSuch() {
        bound(23, "NONE if there is none such")
            .run("artist -1 = NONE; artist 10 = NONE; artist MIN = NONE; artist MAX = NONE; artist 0 = 0;"
                + "artist 9 = 0");
    }

    private static void promise23WhatAnArtistGot() {
        bound(23, "What an ARTIST got")
            .run("rule 0 90 50050; home 0 1000; work 9 100 0; work 9 60 0; work 0 100 0;" + lend(0, 0) + ";"
                + "artist 9 = 0; back 0 = 5; artist 9 = 2;" + lend(0, 1) + "; sell 1 = 59;"
                + "artist 9 = 3;" + lend(0, 2) + "; lose 2; artist 0 = 2; artist 9 = 3; artist 1 = 0")
            .run("pay 0 5; artist 9 = 3");
    }

    // ---- 24: count

    private static void promise24Others() {
        bound(24, "NONE for others")
            .run("count -1 = NONE; count 9 = NONE; count MIN = NONE; count MAX = NONE; count 8 = 0; count 0 = 0");
    }

    private static void promise24EachOfThem() {
        oneOfEach(24, "0 NOW, 1 HOMES, 2 WORKS, 3 WISHES, 4 OPEN ones, 5 MILES ... 7 what SALES brought, 8 LOOKS")
            .run("far 0 1 40; go 3; look 0 0; wish 0 0; wish 1 0; offer 0 refused; offer 0 taken; count 0 = 3;"
                + "count 1 = 2; count 2 = 4; count 3 = 5; count 4 = 1; count 5 = 40; count 6 = 2; count 7 = 100;"
                + "count 8 = 1")
            .run("back 1; count 6 = 3; back 0; count 6 = 4; go 1; offer 0 taken; count 4 = 0; count 5 = 80; lose 0;"
                + "count 6 = 5; count 7 = 100; pay 0 1; count 6 = 5");
    }
}
