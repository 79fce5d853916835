/** The 'Terms', part 5: a test for each sentence on the PLAN that names a bound or an edge. */
public final class PlanBoundsTest {
    public static void main(String[] args) throws Exception {
        Due.runAll(PlanBoundsTest.class, "part");
        Due.end();
    }

    private static Bound bound(int promise, String sentence) {
        return new Bound(promise, sentence);
    }

    /** So many WORKS of one POINT in TOWN 0. */
    private static String works(int size) {
        return "work 0 20 0;".repeat(size - 1) + "work 0 20 0";
    }

    private static void part5NoWork() {
        bound(19, "if these are 1 to 4")
            .run("miles = NONE; planned 0 = NONE; home 0 9; miles = NONE; work 0 20 0; miles = NONE; planned 0 = NONE;"
                + "wish 0 0; miles = 0; planned 0 = 0; unwish 0; miles = NONE; planned 0 = NONE");
    }

    private static void part5OneToFourWorks() {
        Bound b = bound(18, "if these are 1 to 4")
            .run("far 0 1 5; home 1 9; home 1 9; home 1 9; home 1 9; home 1 9;" + works(5));
        for (int work = 0; work < 4; work++) {
            b.run("wish " + work + " " + work + "; miles = " + 5 * (work + 1));
            for (int other = 0; other < 5; other++) {
                b.run("planned " + other + " = " + (other <= work ? other : -1));
            }
        }
        b.run("wish 4 4; miles = NONE; planned 0 = NONE; planned 3 = NONE; planned 4 = NONE; unwish 2; miles = 20;"
            + "planned 4 = 4; planned 2 = NONE; planned 0 = 0");
    }

    private static void part5FortyWorks() {
        Bound b = bound(19, "if these are 1 to 4").run("home 0 9");
        for (int work = 0; work < 40; work++) {
            b.run("work 0 20 0; wish 0 " + work + "; miles = " + (work < 4 ? 0 : -1));
        }
        for (int wish = 0; wish < 36; wish++) {
            b.run("unwish " + wish + "; miles = " + (wish == 35 ? 0 : -1));
        }
        b.run("planned 36 = 36; planned 37 = NONE; planned 39 = NONE; planned 0 = NONE");
    }

    private static void part5OfWorksInStores() {
        bound(18, "of WORKS in STORES")
            .run("home 0 9; home 0 9;" + works(5) + "; wish 0 0; wish 0 1; wish 0 2; wish 0 3; wish 0 4; wish 1 4;"
                + "miles = NONE; offer 4 taken; miles = 0; planned 4 = NONE; planned 0 = 0")
            .run("back 4; miles = NONE; offer 4 taken; miles = 0; sell 4; miles = 0");
    }

    private static void part5WithoutRoomItIsNoneOfThese() {
        bound(18, "that have an OPEN WISH whose HOME has ROOM for it")
            .run("home 0 19; home 0 0;" + works(4) + "; work 0 400 0; wish 0 0; wish 0 1; wish 0 2; wish 0 3; wish 0 4;"
                + "wish 1 4; planned 4 = NONE; miles = 0; planned 0 = 0")
            .run("home 0 20; wish 2 4; miles = NONE; unwish 0; unwish 1; unwish 2; unwish 3; planned 4 = 6");
    }

    private static void part5RoomBesideWhatItHas() {
        bound(18, "ROOM for it alone beside what it has")
            .run("home 0 40; work 0 400 0; work 0 400 0; work 0 420 0; wish 0 0; wish 0 1; wish 0 2; planned 2 = NONE;"
                + "planned 0 = 0; offer 0 taken; planned 1 = 1; planned 2 = NONE")
            .run("unwish 1; miles = NONE; planned 2 = NONE; back 0; planned 2 = 2");
    }

    private static void part5ForItAlone() {
        bound(18, "ROOM for it alone beside what it has")
            .run("home 0 20; home 0 20; work 0 400 0; work 0 400 0; wish 0 0; wish 0 1; wish 1 1; planned 0 = 0;"
                + "planned 1 = 2; miles = 0");
    }

    private static void part5NoHomeTwo() {
        bound(18, "each gets one such WISH or none, no HOME two")
            .run("far 0 1 7; home 1 1000;" + works(4) + "; wish 0 0; wish 0 1; wish 0 2; wish 0 3; planned 0 = 0;"
                + "planned 1 = NONE; planned 2 = NONE; planned 3 = NONE; miles = 7");
    }

    private static void part5MostWishesAheadOfMiles() {
        bound(19, "so that most WISHES are served")
            .run("far 0 1 500; far 0 2 500; home 0 9; home 1 9; home 2 9;" + works(3) + "; wish 0 0; miles = 0;"
                + "wish 0 1; miles = 0; wish 1 0; miles = 500; planned 0 = 2; planned 1 = 1")
            .run("wish 0 2; miles = 500; wish 2 1; miles = 1000; planned 0 = 2; planned 1 = 4; planned 2 = 3");
    }

    private static void part5MostMilesOfAll() {
        bound(19, "The MILES of the PLAN")
            .run("far 0 1 500; home 1 9; home 1 9; home 1 9; home 1 9;" + works(4) + "; wish 0 0; wish 1 1; wish 2 2;"
                + "wish 3 3; miles = 2000; count 5 = 0");
    }

    private static void part5FewestMiles() {
        bound(18, "of like ones by the fewest MILES")
            .run("far 0 1 10; far 0 2 9; far 0 3 11; home 1 9; home 2 9; home 3 9; work 0 20 0; wish 2 0; wish 0 0;"
                + "wish 1 0; planned 0 = 2; miles = 9")
            .run("far 0 2 10; planned 0 = 1; miles = 10; far 0 3 10; planned 0 = 0; miles = 10; far 0 1 9;"
                + "planned 0 = 1; miles = 9");
    }

    private static void part5FewestMilesOfAllTogether() {
        bound(18, "of like ones by the fewest MILES")
            .run("far 0 1 1; far 0 2 2; far 3 1 1; far 3 2 9; home 1 9; home 2 9; work 0 20 0; work 0 20 3; wish 0 0;"
                + "wish 1 0; wish 0 1; wish 1 1; planned 0 = 1; planned 1 = 2; miles = 3")
            .run("far 3 2 2; planned 0 = 0; planned 1 = 3; miles = 3");
    }

    private static void part5FromTheStoreWhereItIs() {
        bound(19, "by the fewest MILES")
            .run("far 0 1 10; far 1 2 3; home 1 9; home 2 9; work 0 20 0; wish 0 0; miles = 10; offer 0 taken; back 0;"
                + "wish 1 0; miles = 3");
    }

    private static void part5TheFirstByNumbers() {
        bound(18, "of like ones the first one (by numbers, from the least WORK on")
            .run("home 0 9; home 0 9;" + works(2) + "; wish 1 1; wish 0 1; wish 1 0; wish 0 0; planned 0 = 2;"
                + "planned 1 = 1; unwish 2; wish 1 0; planned 0 = 3; planned 1 = 0; miles = 0");
    }

    private static void part5NoneBehindAll() {
        bound(18, "none behind all")
            .run("home 0 9;" + works(3) + "; wish 0 2; wish 0 1; wish 0 0; planned 0 = 2; planned 1 = NONE;"
                + "planned 2 = NONE; unwish 2; planned 1 = 1; planned 2 = NONE; unwish 1; planned 2 = 0")
            .run("home 0 9; wish 1 2; wish 1 0; wish 1 1; planned 0 = 4; planned 1 = NONE; planned 2 = 0");
    }

    private static void part5NoneForTheFirstWork() {
        bound(18, "each gets one such WISH or none")
            .run("far 0 1 9; home 1 9; work 0 20 0; work 0 20 1; wish 0 0; wish 0 1; planned 0 = NONE; planned 1 = 1;"
                + "miles = 0; far 0 1 0; planned 0 = 0; planned 1 = NONE; miles = 0");
    }

    /** WORKS 0, 1 and 2 have but one WISH each, of the three HOMES that are nearest for WORK 3. */
    private static void part5TheNearestHomesAreTaken() {
        int[][] orders = {
            {0, 1, 2, 3, 4, 5}, {5, 4, 3, 2, 1, 0}, {4, 0, 1, 2, 3, 5}, {0, 4, 1, 5, 2, 3}, {1, 2, 4, 0, 5, 3}
        };
        for (int[] order : orders) {
            Bound b = bound(18, "each gets one such WISH or none, no HOME two")
                .run("far 0 1 7; far 0 2 8; far 0 3 9; home 0 9; home 0 9; home 0 9; home 1 9; home 2 9;"
                    + "home 3 9;" + works(4));
            b.run("wish 0 0; wish 1 1; wish 2 2");
            int due = 0;
            for (int i = 0; i < order.length; i++) {
                b.run("wish " + order[i] + " 3");
                due = order[i] == 3 ? 3 + i : due;
            }
            b.run("miles = 7; planned 0 = 0; planned 1 = 1; planned 2 = 2; planned 3 = " + due);
        }
    }

    private static void part5ARefusalOfTodayIsNoHindrance() {
        bound(18, "that have an OPEN WISH whose HOME has ROOM for it")
            .run("home 0 9; work 0 20 0; wish 0 0; offer 0 refused; next 0 = NONE; planned 0 = 0; miles = 0");
    }

    private static void part5ThePlanIsOnlyAPlan() {
        bound(18, "The PLAN: the WISH for a WORK")
            .run("far 0 1 5; home 1 9; work 0 20 0; wish 0 0; planned 0 = 0; planned 0 = 0; miles = 5; miles = 5;"
                + "told 0 0 = 0; wished 0 0 = 0; count 4 = 1; count 5 = 0; next 0 = 0");
    }

    private static void part5ManyWishes() {
        Bound b = bound(18, "so that most WISHES are served, of like ones by the fewest MILES")
            .run("far 0 1 9; far 0 2 8;" + works(4));
        for (int home = 0; home < 20; home++) {
            b.run("home " + (home == 13 ? 2 : home == 7 ? 0 : 1) + " 9");
            for (int work = 0; work < 4; work++) {
                b.run("wish " + home + " " + work);
            }
        }
        b.run("miles = 26; planned 0 = 0; planned 1 = 5; planned 2 = 30; planned 3 = 55");
    }
}
