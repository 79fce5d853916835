/**
 * 'What is refused changes nothing': each refusal alone, in a state where much is under way, and afterwards all that
 * can be asked, calls that show what can't be asked (MILES, LIMITS, RULES, numbers), and all questions again.
 */
public final class RefusedBoundsTest {
    private static final String SENTENCE = "What is refused changes nothing";

    public static void main(String[] args) throws Exception {
        Due.runAll(RefusedBoundsTest.class, "promise");
        Due.end();
    }

    /**
     * On day 41: WORK 0 is in a STORE and was refused today, 1 is LENT to HOME 1, 2 in a STORE without a WISH, 3 SOLD
     * to HOME 0, 4 LOST by HOME 1; HOME 2 has ROOM for nothing; WISHES are SERVED (0, 1, 3), gone (2, 8), OPEN
     * (4 .. 7).
     */
    private static Bound busy(int promise) {
        return new Bound(promise, SENTENCE)
            .run("far 0 1 30; far 0 2 50; far 1 2 7; home 1 100; home 2 60; home 3 0")
            .run("work 3 400 0; work 9 1200 1; work 0 500 2; work 5 100 3; work 5 120 0")
            .run("rule 0 1220060 20025; rule 60 2110030 30050")
            .run("wish 0 3 = 0; offer 3 taken; wish 1 4 = 1; offer 4 taken; go 10; wish 2 3 = 2; sell 3; lose 4;"
                + "wished 2 0 = 2")
            .run("wish 1 1 = 3; offer 1 taken; wish 0 1 = 4; wish 0 0 = 5; wish 1 0 = 6; wish 2 0 = 7; wish 2 1 = 8;"
                + "unwish 8")
            .run("look 0 5; look 1 3; go 31; look 1 7; blame 1 2 = 1; next 0 = 5; offer 0 refused; wished 5 2 = 1;"
                + "next 0 = NONE");
    }

    /** What is refused stands in the middle; behind it, hidden things come to light. */
    private static void nothingChanged(int promise, String refused) {
        for (String each : refused.split(";")) {
            busy(promise)
                .refused(each)
                .alikeInAll()
                .alike("go 1; next 0; offer 0 taken; go 31; sell 0; back 1; offer 1 taken; look 1 65535; blame 1 5;"
                    + "pay 0 1; go 90; back 1");
            busy(promise)
                .refused(each)
                .refused(each)
                .alike("home 0 1000; work 1 20 0; wish 3 5; offer 5 taken; wish 0 2; rank 9; rank 10; miles; go 25;"
                    + "offer 2 taken; go 45")
                .alike("told 2 4; told 5 4; back 5; lose 2; offer 0 refused; rank 5; look 0 8; blame 0 3; blame 0 0;"
                    + "count 5; count 6")
                .alikeInAll();
        }
    }

    private static void promise2() {
        nothingChanged(2, "far -1 0 9; far 0 4 9; far 2 2 9; far 0 1 -1; far 0 1 501; far 1 2 MAX");
    }

    private static void promise3() {
        nothingChanged(3, "home -1 9; home 4 9; home 0 -1; home 0 1001");
    }

    private static void promise4() {
        nothingChanged(4, "work -1 20 0; work 10 20 0; work 0 19 0; work 0 4001 0; work 0 20 -1; work 0 20 4");
    }

    private static void promise5() {
        nothingChanged(5, "rule -1 9990001 99100; rule 20001 9990001 99100; rule 0 9990000 99100;"
            + "rule 0 9990401 99100");
        nothingChanged(5, "rule 0 10000001 99100; rule 0 -1 99100; rule 0 9990001 99101; rule 0 9990001 100000;"
            + "rule 0 9990001 -1");
    }

    private static void promise6() {
        nothingChanged(6, "go -1; go 1001; go MIN; go MAX");
    }

    private static void promise7() {
        nothingChanged(7, "wish -1 2; wish 3 2; wish 0 -1; wish 0 5; wish 0 3; wish 1 3; wish 0 4; wish 1 4; wish 1 1;"
            + "wish 0 1; wish 0 0");
    }

    private static void promise8() {
        nothingChanged(8, "unwish -1; unwish 9; unwish 0; unwish 2; unwish 3; unwish 8");
    }

    private static void promise11() {
        nothingChanged(11, "offer -1 taken; offer 5 taken; offer 0 taken; offer 0 refused; offer 1 taken;"
            + "offer 1 refused");
        nothingChanged(11, "offer 2 taken; offer 2 refused; offer 3 taken; offer 3 refused; offer 4 taken;"
            + "offer 4 refused");
    }

    private static void promise12() {
        nothingChanged(12, "back -1; back 5; back 0; back 2; back 3; back 4");
    }

    private static void promise13() {
        nothingChanged(13, "sell -1; sell 5; sell 0; sell 2; sell 3; sell 4");
    }

    private static void promise14() {
        nothingChanged(14, "lose -1; lose 5; lose 0; lose 2; lose 3; lose 4");
    }

    private static void promise15() {
        // HOME 0 owes 2 and 99, HOME 1 owes 2 and 120.
        busy(15).run("homed 0 2 = 101; homed 1 2 = 122; homed 2 2 = 0");
        nothingChanged(15, "pay -1 1; pay 3 1; pay 0 0; pay 0 -1; pay 0 102; pay 1 123; pay 2 1; pay 2 0; pay 0 MAX;"
            + "pay 0 MIN");
    }

    private static void promise16() {
        nothingChanged(16, "look -1 9; look 5 9; look 3 9; look 4 9; look 0 -1; look 0 65536; look 1 65536");
    }

    /** Questions change nothing, whatever they answer. */
    private static void promises9To24Questions() {
        new Bound(24, "what is asked changes nothing")
            .run("home 0 9; work 0 20 0; wish 0 0; look 0 1; go 2")
            .run("rank 0 = 2; rank 1 = NONE; next 0 = 0; next 1 = NONE; blame 0 0 = DOUBT; blame 0 1 = NONE;"
                + "planned 0 = 0; planned 1 = NONE; miles = 0")
            .run("told 0 8 = NONE; homed 0 5 = NONE; wished 0 3 = NONE; artist 10 = NONE; count 9 = NONE")
            .run("rank 0 = 2; next 0 = 0; blame 0 0 = DOUBT; planned 0 = 0; miles = 0; count 0 = 2; count 4 = 1;"
                + "told 0 0 = 0");
    }
}
