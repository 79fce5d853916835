/** The 'Terms', parts 1 to 3: a test for each sentence that names a bound or an edge. */
public final class TermsBoundsTest {
    public static void main(String[] args) throws Exception {
        Due.runAll(TermsBoundsTest.class, "part");
        Due.end();
    }

    private static Bound bound(int promise, String sentence) {
        return new Bound(promise, sentence);
    }

    private static String lend(int home, int work) {
        return "wish " + home + " " + work + "; offer " + work + " taken = true; told " + work + " 1 = " + home;
    }

    private static String what(int age, int rest, int keep, int term) {
        return String.valueOf(age * 1000000 + rest * 100000 + keep * 10000 + term);
    }

    // ---- part 1: days, towns, homes, works, rules

    private static void part1NowAtFirst() {
        bound(6, "NOW is one (0 at first)")
            .run("count 0 = 0; go 0 = 0; home 0 9; work 0 20 0; told 0 6 = 0; wish 0 0; wished 0 1 = 0");
    }

    private static void part1LastDay() {
        Bound b = bound(6, "DAYS are 0 .. 20000");
        b.run("home 0 9; work 0 20 0; wish 0 0");
        for (int i = 1; i <= 20; i++) {
            b.run("go 1000 = " + i * 1000);
        }
        b.run("count 0 = 20000; told 0 6 = 20000; rank 0 = 20000; wish 0 0 = NONE; unwish 0; wish 0 0 = 1;"
            + "wished 1 1 = 20000");
        b.run("offer 0 taken; told 0 3 = 20000");
    }

    private static void part1RuleOfTheFirstDay() {
        bound(5, "DAYS are 0 .. 20000")
            .run("home 0 9; work 0 20 0; rule 0 " + what(0, 0, 0, 90) + " 50000; wish 0 0; offer 0 taken; back 0 = 1");
    }

    private static void part1RuleOfTheLastDay() {
        Bound b = bound(5, "DAYS are 0 .. 20000");
        b.run("home 0 9; work 0 20 0; wish 0 0; rule 20000 " + what(9, 9, 0, 90) + " 0");
        for (int i = 0; i < 19; i++) {
            b.run("go 1000");
        }
        b.run("go 999 = 19999; rank 0 = 19999; go 1 = 20000; rank 0 = " + (9 * 20000 + 9 * 666));
    }

    private static void part1Towns() {
        Bound b = bound(3, "TOWNS are 0 .. 3");
        for (int town = 0; town < 4; town++) {
            b.run("home " + town + " 5 = " + town + "; homed " + town + " 0 = " + town);
            b.run("work 0 20 " + town + " = " + town + "; told " + town + " 2 = " + town);
        }
        b.refused("home -1 5; home 4 5; work 0 20 -1; work 0 20 4");
    }

    private static void part1FarIsZeroAtFirst() {
        Bound b = bound(2, "MILES (0 .. 500; 0 at first, and to itself)");
        for (int town = 0; town < 4; town++) {
            b.run("home " + town + " 1000");
        }
        for (int work = 0; work < 16; work++) {
            b.run("work 0 20 " + work / 4 + ";" + lend(work % 4, work) + "; count 5 = 0");
        }
    }

    private static void part1FarToItself() {
        Bound b = bound(2, "MILES (0 .. 500; 0 at first, and to itself)");
        for (int town = 0; town < 4; town++) {
            b.run("home " + town + " 1000; work 0 20 " + town);
            for (int other = 0; other < town; other++) {
                b.run("far " + town + " " + other + " 500");
            }
        }
        for (int town = 0; town < 4; town++) {
            b.refused("far " + town + " " + town + " 500; far " + town + " " + town + " 0");
            b.run(lend(town, town) + "; count 5 = 0");
        }
    }

    private static void part1FarBothWays() {
        Bound b = bound(2, "FAR from one to another one, the same both ways");
        b.run("home 0 1000; home 1 1000; home 2 1000; home 3 1000");
        b.run("far 0 1 1; far 2 0 2; far 0 3 4; far 2 1 8; far 1 3 16; far 3 2 32");
        int[][] miles = {{0, 1, 2, 4}, {1, 0, 8, 16}, {2, 8, 0, 32}, {4, 16, 32, 0}};
        int driven = 0;
        for (int work = 0; work < 16; work++) {
            driven += miles[work / 4][work % 4];
            b.run("work 0 20 " + work / 4 + ";" + lend(work % 4, work) + "; count 5 = " + driven);
        }
    }

    private static void part1FarIsAsTold() {
        bound(2, "FAR from one to another one ... are MILES")
            .run("far 0 1 10; far 1 2 10; far 0 2 500; home 2 9; work 0 20 0; wish 0 0; miles = 500; offer 0 taken;"
                + "count 5 = 500");
    }

    private static void part1LimitZero() {
        bound(3, "a LIMIT (0 .. 1000)")
            .run("home 0 0 = 0; home 0 1 = 1; work 0 20 0; wish 0 0; next 0 = NONE; planned 0 = NONE; wish 1 0;"
                + "next 0 = 1");
    }

    private static void part1LimitThousand() {
        Bound b = bound(3, "a LIMIT (0 .. 1000)").run("home 0 1000");
        for (int work = 0; work < 5; work++) {
            b.run("work 0 4000 0;" + lend(0, work));
        }
        b.run("homed 0 1 = 1000; work 0 20 0; wish 0 5; next 5 = NONE; back 0; next 5 = 5");
    }

    private static void part1HomesHaveNumbersAsTheyCome() {
        Bound b = bound(3, "HOMES have numbers as they come, at most 20");
        for (int home = 0; home < 20; home++) {
            b.refused("home 4 0").run("home " + home % 4 + " 0 = " + home);
        }
        b.refused("home 0 0").run("count 1 = 20");
    }

    private static void part1WorksHaveNumbersAsTheyCome() {
        Bound b = bound(4, "WORKS have numbers as they come, at most 40");
        for (int work = 0; work < 40; work++) {
            b.refused("work 0 19 0").run("work 0 20 " + work % 4 + " = " + work);
        }
        b.refused("work 0 20 0").run("count 2 = 40");
    }

    private static void part1Artists() {
        Bound b = bound(4, "an ARTIST (0 .. 9)").run("home 0 1000; rule 0 90 50100");
        for (int artist = 0; artist < 10; artist++) {
            b.run("work " + artist + " " + 20 * (artist + 1) + " 0;" + lend(0, artist) + ";"
                + "back " + artist + " = " + (artist + 1));
            b.run("artist " + artist + " = " + (artist + 1));
        }
        b.refused("work 10 20 0; work -1 20 0");
    }

    private static void part1Worth() {
        bound(4, "a WORTH (20 .. 4000)")
            .refused("work 0 19 0; work 0 4001 0")
            .run("work 0 20 0 = 0; work 0 4000 0 = 1")
            .run("home 0 1000;" + lend(0, 0) + ";" + lend(0, 1) + "; lose 0; homed 0 2 = 20; lose 1; homed 0 2 = 4060");
    }

    private static void part1AtFirstInAStore() {
        bound(4, "at first in the STORE of a TOWN")
            .run("work 0 20 3; told 0 0 = 0; told 0 1 = NONE; told 0 2 = 3; told 0 3 = NONE; told 0 5 = 0");
    }

    private static void part1PointsAreCut() {
        Bound b = bound(20, "POINTS of a WORK are its WORTH by 20 (cut)");
        int[] worths = {20, 21, 39, 40, 59, 60, 3979, 3980, 3999, 4000};
        int[] points = {1, 1, 1, 2, 2, 3, 198, 199, 199, 200};
        for (int work = 0; work < worths.length; work++) {
            b.run("work 0 " + worths[work] + " 0; told " + work + " 7 = " + points[work]);
        }
    }

    private static void part1HowAWorkIs() {
        bound(20, "A WORK is in a STORE (0), LENT to a HOME (1), SOLD (2), or LOST (3)")
            .run("home 0 100; work 0 20 0; work 0 20 0; told 0 0 = 0;" + lend(0, 0) + "; told 0 0 = 1; back 0;"
                + "told 0 0 = 0")
            .run(lend(0, 0) + "; sell 0; told 0 0 = 2;" + lend(0, 1) + "; lose 1; told 1 0 = 3");
    }

    private static void part1AgeFrom0To9() {
        Bound b = bound(5, "AGE and REST (0 .. 9 each)").run("home 0 9; work 0 20 0; wish 0 0; go 1");
        for (int age = 0; age <= 9; age++) {
            b.run("rule 0 " + what(age, 0, 0, 1) + " 0; rank 0 = " + age);
        }
        b.refused("rule 0 " + what(10, 0, 0, 1) + " 0").run("rank 0 = 9");
    }

    private static void part1RestFrom0To9() {
        Bound b = bound(5, "AGE and REST (0 .. 9 each)").run("home 0 9; work 0 20 0; wish 0 0; go 30");
        for (int rest = 0; rest <= 9; rest++) {
            b.run("rule 0 " + what(0, rest, 0, 1) + " 0; rank 0 = " + rest);
        }
    }

    private static void part1KeepFrom0To9() {
        for (int keep = 0; keep <= 9; keep++) {
            Bound b = bound(5, "KEEP (0 .. 9)")
                .run("home 0 9; work 0 20 0; wish 0 0; rule 0 " + what(0, 0, keep, 1) + " 0");
            for (int refusals = 1; refusals <= keep; refusals++) {
                b.run("go 1; offer 0 refused = true; wished 0 2 = " + refusals + "; wished 0 1 = 0");
            }
            b.run("go 1; offer 0 refused = true; wished 0 2 = 0; wished 0 1 = " + (keep + 1));
        }
    }

    private static void part1TermOne() {
        bound(5, "TERM (1 .. 400 days)")
            .refused("rule 0 " + what(9, 9, 9, 0) + " 0; rule 0 0 0")
            .run("rule 0 " + what(0, 0, 0, 1) + " 0; home 0 9; work 0 20 0;" + lend(0, 0))
            .run("told 0 4 = 0; go 1; told 0 4 = 0; go 1; told 0 4 = 1");
    }

    private static void part1TermFourHundred() {
        bound(5, "TERM (1 .. 400 days)")
            .refused("rule 0 " + what(0, 0, 0, 401) + " 0; rule 0 " + what(9, 9, 9, 401) + " 0")
            .run("rule 0 " + what(9, 9, 9, 400) + " 0; home 0 9; work 0 20 0;" + lend(0, 0))
            .run("go 400; told 0 4 = 0; go 1; told 0 4 = 1");
    }

    private static void part1RateFrom0To99() {
        bound(5, "RATE (0 .. 99)")
            .run("home 0 1000; work 0 4000 0; rule 0 1 0;" + lend(0, 0) + "; back 0 = 0")
            .run("rule 0 1 99000;" + lend(0, 0) + "; back 0 = 396")
            .refused("rule 0 1 100000")
            .run(lend(0, 0) + "; back 0 = 396");
    }

    private static void part1PartFrom0To100() {
        bound(5, "PART (0 .. 100)")
            .run("home 0 1000; work 7 4000 0; rule 0 1 99000;" + lend(0, 0) + "; back 0; artist 7 = 0")
            .run("rule 0 1 99100;" + lend(0, 0) + "; back 0; artist 7 = 396")
            .refused("rule 0 1 99101")
            .run(lend(0, 0) + "; back 0; artist 7 = 792");
    }

    private static void part1RuleInForceIsOfTheGreatestDay() {
        bound(5, "That in force on a DAY is the one of the greatest DAY that isn't above it")
            .run("home 0 9; work 0 20 0; rule 7 7000090 0; rule 5 5000090 0; wish 0 0")
            .run("go 4; rank 0 = 4; go 1; rank 0 = 25; go 1; rank 0 = 30; go 1; rank 0 = 49; go 1; rank 0 = 56")
            .run("rule 6 6000090 0; rank 0 = 56; rule 9 9000090 0; rank 0 = 56; go 1; rank 0 = 81");
    }

    private static void part1OfLikeDaysTheLatestTold() {
        bound(5, "(of like ones the latest told)")
            .run("home 0 9; work 0 20 0; wish 0 0; go 3; rule 2 2000090 0; rule 2 9000090 0; rule 2 4000090 0;"
                + "rank 0 = 12")
            .run("rule 1 8000090 0; rank 0 = 12; rule 2 3000090 0; rank 0 = 9");
    }

    private static void part1WithoutARule() {
        bound(5, "without one AGE is 1, TERM 90, RATE 10, all others 0")
            .run("rule 1000 9990001 99099; home 0 1000; work 4 4000 0; wish 0 0; go 60; rank 0 = 60")
            .run("offer 0 refused = true; wished 0 1 = 60; wished 0 2 = 0; go 1; offer 0 taken = true")
            .run("go 90; told 0 4 = 0; go 1; told 0 4 = 1; back 0 = 160; artist 4 = 0");
    }

    private static void part1WithARuleNothingOfTheFirstOnesStays() {
        bound(5, "without one AGE is 1, TERM 90, RATE 10, all others 0")
            .run("rule 0 1 0; home 0 1000; work 0 4000 0; wish 0 0; go 5; rank 0 = 0; offer 0 taken; go 2;"
                + "told 0 4 = 1; back 0 = 0");
    }

    // ---- part 2: wishes, rank, room, next, offers

    private static void part2WishesHaveNumbersAsTheyCome() {
        Bound b = bound(7, "WISHES have numbers as they come, at most 200").run("home 0 0; work 0 20 0");
        for (int wish = 0; wish < 200; wish++) {
            b.run("wish 0 0 = " + wish + "; unwish " + wish);
        }
        b.refused("wish 0 0").run("count 3 = 200; wished 199 0 = 2; wished 200 0 = NONE; unwish 200 = false");
    }

    private static void part2HowAWishIs() {
        bound(22, "OPEN (0), SERVED (1), gone (2)")
            .run("home 0 9; work 0 20 0; wish 0 0; wished 0 0 = 0; unwish 0; wished 0 0 = 2; wish 0 0; wished 1 0 = 0;"
                + "offer 0 taken; wished 1 0 = 1")
            .run("back 0; wished 1 0 = 1; wished 0 0 = 2");
    }

    private static void part2RankAtFirst() {
        bound(9, "the DAYS since it stands (at first the DAY of its coming)")
            .run("home 0 9; work 0 20 0; go 29; wish 0 0; wished 0 1 = 29; rank 0 = 0; go 1; rank 0 = 1; go 1000;"
                + "rank 0 = 1001");
    }

    private static void part2RankSinceItStandsAnew() {
        bound(9, "the DAYS since it stands")
            .run("home 0 9; work 0 20 0; wish 0 0; go 7; rank 0 = 7; offer 0 refused = true; rank 0 = 0; go 2;"
                + "rank 0 = 2");
    }

    private static void part2RestIsCut() {
        bound(9, "how many times 30 DAYS went by (cut)")
            .run("rule 0 900090 0; home 0 9; work 0 20 0; wish 0 0; rank 0 = 0")
            .run("go 29; rank 0 = 0; go 1; rank 0 = 9; go 29; rank 0 = 9; go 1; rank 0 = 18; go 840; rank 0 = 270");
    }

    private static void part2RestSinceTheHomeCame() {
        bound(9, "since its HOME got a WORK last (or came itself)")
            .run("rule 0 100090 0; work 0 20 0; go 15; home 0 9; go 29; wish 0 0; rank 0 = 0; go 1; rank 0 = 1");
    }

    private static void part2RestSinceTheHomeGotAWork() {
        bound(9, "since its HOME got a WORK last (or came itself)")
            .run("rule 0 100090 0; home 0 9; home 0 9; work 0 20 0; work 0 20 0; work 0 20 0; wish 0 0; wish 1 0;"
                + "go 30; rank 0 = 1")
            .run(lend(0, 1) + "; rank 0 = 0; rank 1 = 1; go 29; rank 0 = 0; go 1; rank 0 = 1; rank 1 = 2")
            .run("back 1; rank 0 = 1; go 15;" + lend(0, 2) + "; go 29; rank 0 = 0; go 1; rank 0 = 1; sell 2;"
                + "rank 0 = 1")
            .run(lend(0, 1) + "; rank 0 = 0; go 30; lose 1; rank 0 = 1");
    }

    private static void part2ARefusalIsNoGetting() {
        bound(9, "since its HOME got a WORK last (or came itself)")
            .run("rule 0 190090 0; home 0 9; work 0 20 0; wish 0 0; go 30; offer 0 refused; rank 0 = 1");
    }

    private static void part2GreatestRank() {
        Bound b = bound(9, "AGE times the DAYS since it stands ... and REST times how many times 30 DAYS went by");
        b.run("rule 0 9900090 0; home 0 9; work 0 20 0; wish 0 0");
        for (int i = 0; i < 20; i++) {
            b.run("go 1000");
        }
        b.run("rank 0 = 185994; next 0 = 0");
    }

    private static void part2RoomOfOneWork() {
        bound(10, "together, are not above its LIMIT")
            .run("work 0 400 0; home 0 19; home 0 20; home 0 21")
            .run("wish 0 0; next 0 = NONE; planned 0 = NONE; miles = NONE; offer 0 taken = false; wish 1 0; next 0 = 1;"
                + "unwish 1; wish 2 0; next 0 = 2");
    }

    private static void part2RoomBesideOthers() {
        bound(10, "the POINTS of all WORKS that are LENT to it and of this one, together, are not above its LIMIT")
            .run("home 0 50; work 0 400 0; work 0 400 0; work 0 200 0; work 0 220 0; wish 0 2; wish 0 3; next 3 = 1")
            .run(lend(0, 0) + ";" + lend(0, 1) + "; homed 0 1 = 40; next 2 = 0; next 3 = NONE; offer 3 taken = false;"
                + "back 0; next 3 = 1");
    }

    private static void part2RoomByPointsThatAreCut() {
        bound(10, "the POINTS of all WORKS that are LENT to it")
            .run("home 0 2; work 0 39 0; work 0 39 0; work 0 20 0")
            .run(lend(0, 0) + "; wish 0 1; next 1 = 1; offer 1 taken; homed 0 1 = 2; wish 0 2; next 2 = NONE");
    }

    private static void part2RoomIsFreeBehindSaleAndLoss() {
        bound(10, "the POINTS of all WORKS that are LENT to it")
            .run("home 0 2; work 0 40 0; work 0 40 0; work 0 40 0;" + lend(0, 0))
            .run("wish 0 1; next 1 = NONE; sell 0; next 1 = 1; offer 1 taken; wish 0 2; next 2 = NONE; lose 1;"
                + "next 2 = 2");
    }

    private static void part2NextHasTheGreatestRank() {
        bound(10, "that with the greatest RANK by the RULE of NOW")
            .run("home 0 9; home 0 9; home 0 9; work 0 20 0; wish 0 0; go 1; wish 1 0; go 1; wish 2 0; next 0 = 0;"
                + "unwish 0; next 0 = 1")
            .run("go 1; offer 0 refused = true; go 1; rank 1 = 1; rank 2 = 2; next 0 = 2");
    }

    private static void part2NextByTheRuleOfNow() {
        bound(10, "that with the greatest RANK by the RULE of NOW")
            .run("home 0 9; home 0 9; work 0 20 0; work 0 20 0; rule 0 1000090 0; rule 60 900090 0;"
                + "go 29;" + lend(0, 1) + "; wish 0 0; go 30; wish 1 0")
            .run("rank 1 = 30; rank 2 = 0; next 0 = 1; go 1; rank 1 = 9; rank 2 = 18; next 0 = 2");
    }

    private static void part2NextOfLikeOnesIsTheLeastNumber() {
        bound(10, "of like ones the least number")
            .run("home 0 9; home 0 9; home 0 9; work 0 20 0; wish 2 0; wish 0 0; wish 1 0; next 0 = 0; unwish 0;"
                + "next 0 = 1; unwish 1; next 0 = 2");
    }

    private static void part2NextRefusedOnThisDay() {
        bound(10, "and that didn't refuse it on this DAY")
            .run("rule 0 1090090 0; home 0 9; home 0 9; work 0 20 0; work 0 20 0; wish 0 0; wish 0 1; go 1; wish 1 0;"
                + "next 0 = 0; offer 0 refused = true")
            .run("next 0 = 2; next 1 = 1; go 0; next 0 = 2; offer 0 refused = true; next 0 = NONE")
            .refused("offer 0 taken; offer 0 refused")
            .run("go 1; next 0 = 0");
    }

    private static void part2NextRefusedOnThisDayThoughItStandsAnew() {
        bound(10, "and that didn't refuse it on this DAY")
            .run("home 0 9; work 0 20 0; wish 0 0; offer 0 refused = true; wished 0 2 = 0; next 0 = NONE; go 1;"
                + "next 0 = 0");
    }

    private static void part2NextForAWorkInAStore() {
        bound(10, "NEXT for a WORK in a STORE")
            .run("home 0 9; home 0 9; work 0 20 0; wish 0 0; wish 1 0; next 0 = 0; offer 0 taken; next 0 = NONE;"
                + "back 0; next 0 = 1");
    }

    private static void part2LentFromNowOn() {
        bound(11, "it is LENT, from NOW on")
            .run("home 0 9; home 0 9; work 0 20 0; wish 1 0; wish 0 0; go 12; offer 0 taken; told 0 0 = 1;"
                + "told 0 1 = 1; told 0 3 = 12; told 0 5 = 1");
    }

    private static void part2TermStays() {
        bound(11, "for the TERM of NOW's RULE (which stays)")
            .run("rule 0 1000010 0; rule 6 1000300 0; home 0 9; work 0 20 0; go 5;" + lend(0, 0) + "; rule 5 1000400 0;"
                + "rule 0 1000400 0")
            .run("go 10; told 0 4 = 0; go 1; told 0 4 = 1");
    }

    private static void part2TheWishIsServed() {
        bound(11, "the WISH is SERVED")
            .run("home 0 9; home 0 9; work 0 20 0; wish 0 0; wish 1 0; offer 0 taken; wished 0 0 = 1; wished 1 0 = 0;"
                + "count 4 = 1; rank 0 = NONE; unwish 0 = false");
    }

    private static void part2MilesAreDriven() {
        bound(11, "the MILES from the STORE's TOWN to the HOME's are driven")
            .run("far 0 1 500; far 1 2 20; far 0 2 3; home 1 9; home 2 9; work 0 20 0; wish 0 0; offer 0 refused;"
                + "count 5 = 0; go 1; offer 0 taken; count 5 = 500")
            .run("back 0; count 5 = 500; wish 1 0; offer 0 taken; count 5 = 520; far 0 1 9; count 5 = 520; sell 0;"
                + "count 5 = 520");
    }

    private static void part2MoreRefusalsThanKeep() {
        bound(11, "if it has more than KEEP then, it stands since NOW and has none")
            .run("rule 0 1010090 0; home 0 9; work 0 20 0; wish 0 0; go 1; offer 0 refused; wished 0 2 = 1;"
                + "wished 0 1 = 0; rank 0 = 1")
            .run("go 1; offer 0 refused; wished 0 2 = 0; wished 0 1 = 2; rank 0 = 0; go 1; offer 0 refused;"
                + "wished 0 2 = 1; wished 0 1 = 2; wished 0 0 = 0");
    }

    private static void part2KeepOfTheRuleOfNow() {
        bound(11, "if it has more than KEEP then")
            .run("rule 0 1090090 0; rule 4 1020090 0; rule 5 90 0; home 0 9; work 0 20 0; wish 0 0; go 1;"
                + "offer 0 refused; go 1; offer 0 refused; go 1; offer 0 refused")
            .run("wished 0 2 = 3; wished 0 1 = 0; go 1; wished 0 2 = 3; offer 0 refused; wished 0 2 = 0;"
                + "wished 0 1 = 4");
    }

    // ---- part 3: rent, late, price, loss

    private static void rentAfter(int days, int due) {
        bound(12, "for each begun 30 DAYS since it was LENT (one at least)")
            .run("go 13; rule 0 1000090 20000; home 0 1000; work 0 400 0;" + lend(0, 0) + "; go " + days + ";"
                + "back 0 = " + due);
    }

    private static void part3BegunDays() {
        int[] days = {0, 1, 29, 30, 31, 59, 60, 61, 89, 90, 91, 990, 991, 1000};
        int[] months = {1, 1, 1, 1, 2, 2, 2, 3, 3, 3, 4, 33, 34, 34};
        for (int i = 0; i < days.length; i++) {
            rentAfter(days[i], 8 * months[i]);
        }
    }

    private static void part3RentIsCut() {
        bound(12, "WORTH times RATE by 1000 (cut)")
            .run("home 0 1000; rule 0 90 49000; work 0 20 0;" + lend(0, 0) + "; go 1000; back 0 = 0; homed 0 4 = 0;"
                + "homed 0 2 = 0")
            .run("rule 0 90 50000;" + lend(0, 0) + "; go 31; back 0 = 2; rule 0 90 99000;" + lend(0, 0) + "; go 61;"
                + "back 0 = 3");
    }

    private static void part3RentIsCutAtThousands() {
        Bound b = bound(12, "WORTH times RATE by 1000 (cut)").run("home 0 1000; rule 0 90 1000");
        int[] worths = {999, 1000, 1999, 2000, 3999, 4000};
        int[] rents = {0, 1, 1, 2, 3, 4};
        for (int work = 0; work < worths.length; work++) {
            b.run("work 0 " + worths[work] + " 0;" + lend(0, work) + "; back " + work + " = " + rents[work]);
        }
    }

    private static void part3GreatestRent() {
        Bound b = bound(12, "for each begun 30 DAYS since it was LENT")
            .run("home 0 1000; rule 0 90 99000; rule 20000 90 100; work 6 4000 0;" + lend(0, 0));
        for (int i = 0; i < 20; i++) {
            b.run("go 1000");
        }
        b.run("back 0 = 264132; homed 0 2 = 264132; homed 0 4 = 264132; artist 6 = 264132; count 6 = 264132;"
            + "pay 0 264132 = 0");
    }

    private static void part3RuleOfTheDayOnWhichItWasLent() {
        bound(12, "by the RULE of the DAY on which it was LENT (as it is told NOW)")
            .run("rule 0 90 10000; rule 4 90 20000; rule 6 90 30000; home 0 1000; work 0 1000 0;"
                + "go 5;" + lend(0, 0) + "; go 5; back 0 = 20;" + lend(0, 0) + "; back 0 = 30");
    }

    private static void part3RuleAsItIsToldNow() {
        bound(12, "by the RULE of the DAY on which it was LENT (as it is told NOW)")
            .run("rule 0 90 10000; home 0 1000; work 0 1000 0; go 5;" + lend(0, 0) + "; go 5; rule 6 90 90000;"
                + "rule 5 90 50000; back 0 = 50");
    }

    private static void part3PartIsCut() {
        bound(12, "the ARTIST gets PART of 100 of it (cut)")
            .run("home 0 1000; rule 0 90 99001; work 2 1000 0;" + lend(0, 0) + "; back 0 = 99; artist 2 = 0")
            .run("work 2 1019 0;" + lend(0, 1) + "; back 1 = 100; artist 2 = 1; rule 0 90 99099;" + lend(0, 0) + ";"
                + "back 0 = 99; artist 2 = 99");
    }

    private static void part3PartByTheRuleOfNow() {
        bound(12, "the ARTIST gets PART of 100 of it (cut) by the RULE of NOW")
            .run("home 0 1000; rule 0 90 10010; rule 7 90 20050; work 2 1000 0;" + lend(0, 0) + "; go 6; back 0 = 10;"
                + "artist 2 = 1;" + lend(0, 0) + "; go 1; back 0 = 10; artist 2 = 6");
    }

    private static void part3InTheStoreOfTheHomesTown() {
        bound(12, "It is in the STORE of the HOME's TOWN then")
            .run("home 3 9; work 0 20 1; told 0 2 = 1;" + lend(0, 0) + "; told 0 2 = NONE; back 0; told 0 2 = 3;"
                + "told 0 0 = 0; homed 0 1 = 0; homed 0 3 = 0");
    }

    private static void part3Late() {
        bound(20, "It is LATE by the DAYS beyond its TERM (0 at least)")
            .run("rule 0 30 0; home 0 9; work 0 20 0; go 8; told 0 4 = 0;" + lend(0, 0))
            .run("told 0 4 = 0; go 29; told 0 4 = 0; go 1; told 0 4 = 0; go 1; told 0 4 = 1; go 1000; told 0 4 = 1001;"
                + "back 0; told 0 4 = 0");
    }

    /** A WORK worth so much that is SOLD after so many begun 30 DAYS at so much RENT each. */
    private static void priceOf(int worth, int rate, int months, int price) {
        Bound b = bound(13, "its WORTH less half of all RENTS ... (cut), half its WORTH (cut) at least");
        b.run("home 0 1000; rule 0 400 " + rate * 1000 + "; work 0 " + worth + " 0;" + lend(0, 0));
        int days = 30 * months;
        b.run("go " + Math.min(1000, days));
        if (days > 1000) {
            b.run("go " + (days - 1000));
        }
        b.run("sell 0 = " + price + "; count 7 = " + price);
    }

    private static void part3PriceIsHalfItsWorthAtLeast() {
        priceOf(1000, 50, 19, 525);
        priceOf(1000, 50, 20, 500);
        priceOf(1000, 50, 21, 500);
        priceOf(1000, 1, 1, 1000);
        priceOf(1000, 2, 1, 999);
    }

    private static void part3HalfItsWorthIsCut() {
        priceOf(101, 20, 49, 52);
        priceOf(101, 20, 50, 51);
        priceOf(101, 20, 51, 50);
        priceOf(101, 20, 52, 50);
        priceOf(21, 99, 60, 10);
    }

    private static void part3HalfTheRentsIsCut() {
        priceOf(1000, 7, 1, 997);
        priceOf(1000, 1, 3, 999);
        priceOf(1000, 0, 3, 1000);
        priceOf(4000, 99, 1, 4000 - 198);
    }

    private static void part3PriceByAllRentsOfThatHomeForItEver() {
        bound(13, "half of all RENTS of that HOME for it ever")
            .run("rule 0 90 9000; home 0 1000; home 0 1000; work 0 1000 0; work 0 1000 0")
            .run(lend(0, 0) + "; back 0 = 9; pay 0 9 = 0;" + lend(0, 1) + "; go 100; back 1 = 36;" + lend(1, 0) + ";"
                + "go 31; back 0 = 18;" + lend(0, 0))
            .run("sell 0 = 991; homed 0 2 = " + (36 + 9 + 991));
    }

    private static void part3SoldWithRentAndPart() {
        bound(13, "RENT is reckoned as if it came BACK (with the ARTIST's part)")
            .run("rule 0 90 9050; rule 31 90 70010; home 0 1000; work 8 1000 0;" + lend(0, 0) + "; go 31; sell 0 = 991;"
                + "homed 0 2 = " + (18 + 991))
            .run("homed 0 4 = 18; count 6 = 18; artist 8 = 1");
    }

    private static void part3LostWithRentAndWorth() {
        bound(14, "LOST by the HOME that has it: RENT likewise, and its WORTH is OWED")
            .run("rule 0 90 9050; rule 31 90 70010; home 0 1000; work 8 1000 0;" + lend(0, 0) + "; go 31; lose 0;"
                + "homed 0 2 = 1018; homed 0 4 = 18; count 6 = 18; count 7 = 0; artist 8 = 1");
    }

    private static void wishesGo(String end) {
        bound(end.startsWith("sell") ? 13 : 14, "All OPEN WISHES for a WORK that is SOLD or LOST go")
            .run("home 0 9; home 0 9; home 0 0; work 0 20 0; work 0 20 0; wish 0 0; unwish 0; wish 0 0; wish 1 0;"
                + "wish 2 0; wish 1 1; offer 0 taken; count 4 = 3")
            .run(end + "; wished 0 0 = 2; wished 1 0 = 1; wished 2 0 = 2; wished 3 0 = 2; wished 4 0 = 0; count 3 = 5;"
                + "count 4 = 1; rank 2 = NONE; unwish 3 = false");
    }

    private static void part3WishesGoWithTheWork() {
        wishesGo("sell 0");
        wishesGo("lose 0");
    }

    private static void firstWishGoes(String end) {
        bound(end.startsWith("sell") ? 13 : 14, "All OPEN WISHES for a WORK that is SOLD or LOST go")
            .run("home 0 0; home 0 9; work 0 20 0; wish 0 0; wish 1 0; offer 0 taken; wished 0 0 = 0; " + end + ";"
                + "wished 0 0 = 2; count 4 = 0");
    }

    private static void part3TheFirstWishGoesToo() {
        firstWishGoes("sell 0");
        firstWishGoes("lose 0");
    }

    private static void part3WishesStayWhenItComesBack() {
        bound(12, "All OPEN WISHES for a WORK that is SOLD or LOST go")
            .run("home 0 9; home 0 9; work 0 20 0; wish 0 0; wish 1 0; offer 0 taken; back 0; wished 1 0 = 0;"
                + "next 0 = 1");
    }
}
