/** The 'Terms', part 4: a test for each sentence on LOOKS and MARKS that names a bound or an edge. */
public final class MarksBoundsTest {
    private static final String BETWEEN =
        "at some time between these two (it was LENT to it at the earlier one, or came to it between them)";

    public static void main(String[] args) throws Exception {
        Due.runAll(MarksBoundsTest.class, "part");
        Due.end();
    }

    /** Two HOMES and two WORKS for which both have ROOM. */
    private static Bound bound(int promise, String sentence) {
        return new Bound(promise, sentence).run("home 0 100; home 0 100; work 0 20 0; work 0 20 0");
    }

    private static String lend(int home, int work) {
        return "wish " + home + " " + work + "; offer " + work + " taken = true; told " + work + " 1 = " + home;
    }

    private static void part4LooksOfAll() {
        Bound b = bound(16, "LOOKS at a WORK (at most 300 of all)");
        for (int i = 1; i <= 150; i++) {
            b.run("look 0 1 = " + i + "; look 1 2 = " + i);
        }
        b.refused("look 0 2; look 1 1; look 0 0")
            .run("count 8 = 300; blame 0 0 = DOUBT; blame 0 1 = NONE; blame 1 0 = NONE; blame 1 1 = DOUBT");
    }

    private static void part4RefusedLooksAreNone() {
        Bound b = bound(16, "LOOKS at a WORK (at most 300 of all)");
        b.refused("look 0 -1; look 0 65536; look 2 0; look -1 0");
        for (int i = 1; i <= 299; i++) {
            b.run("look 0 0 = " + i);
        }
        b.run("count 8 = 299; look 1 1 = 1; count 8 = 300").refused("look 0 0");
    }

    private static void part4EachPlaceAlone() {
        Bound b = bound(17, "which of the places 0 .. 15 have a MARK");
        for (int place = 0; place < 16; place++) {
            b.run("look 0 " + (1 << place) + "; blame 0 " + place + " = DOUBT");
            for (int other = 0; other < 16; other++) {
                b.run(other == place ? "blame 0 " + place + " = DOUBT" : "blame 0 " + other + " = NONE");
            }
        }
    }

    private static void part4NoMarkAndAllMarks() {
        Bound b = bound(17, "which of the places 0 .. 15 have a MARK").run("look 0 0 = 1");
        for (int place = 0; place < 16; place++) {
            b.run("blame 0 " + place + " = NONE");
        }
        b.run(lend(1, 0) + "; look 0 65535 = 2");
        for (int place = 0; place < 16; place++) {
            b.run("blame 0 " + place + " = 1");
        }
        b.run("blame 0 16 = NONE; blame 0 -1 = NONE");
    }

    private static void part4LatestLookAlone() {
        bound(17, "A MARK at a place in the latest LOOK")
            .run("look 0 1;" + lend(0, 0) + "; look 0 2; blame 0 0 = NONE; blame 0 1 = 0; look 0 0; blame 0 0 = NONE;"
                + "blame 0 1 = NONE");
    }

    private static void part4FirstOfTheLastLooks() {
        bound(17, "the first one of the last LOOKS, without a gap, that have it, and the one ahead of that")
            .run("look 0 0;" + lend(0, 0) + "; look 0 4; blame 0 2 = 0; back 0;" + lend(1, 0) + "; look 0 4;"
                + "blame 0 2 = 0; look 0 5; blame 0 2 = 0; blame 0 0 = 1")
            .run("back 0; look 0 5; look 0 13; blame 0 2 = 0; blame 0 0 = 1; blame 0 3 = DOUBT");
    }

    private static void part4BehindAGap() {
        bound(17, "the last LOOKS, without a gap")
            .run("look 0 0;" + lend(0, 0) + "; look 0 1; blame 0 0 = 0; back 0; look 0 0;" + lend(1, 0) + "; look 0 1;"
                + "blame 0 0 = 1; look 0 1; blame 0 0 = 1")
            .run("back 0; look 0 0; look 0 1; blame 0 0 = DOUBT");
    }

    private static void part4LooksOfAnotherWorkAreNoGap() {
        bound(17, "the last LOOKS, without a gap")
            .run("look 0 0;" + lend(0, 0) + "; look 0 1; look 1 0; back 0; look 1 0; look 0 1; blame 0 0 = 0");
    }

    private static void part4LentAtTheEarlierOne() {
        bound(17, BETWEEN).run(lend(1, 0) + "; look 0 0; back 0; look 0 1; blame 0 0 = 1");
    }

    private static void part4LentAtBoth() {
        bound(17, BETWEEN).run(lend(1, 0) + "; look 0 0; look 0 1; blame 0 0 = 1; go 100; look 0 3; blame 0 1 = 1");
    }

    private static void part4CameToItBetween() {
        bound(17, BETWEEN).run("look 0 0;" + lend(1, 0) + "; look 0 1; blame 0 0 = 1");
    }

    private static void part4CameAndLeftBetween() {
        bound(17, BETWEEN).run("look 0 0; go 3;" + lend(1, 0) + "; go 3; back 0; go 3; look 0 1; blame 0 0 = 1");
    }

    private static void part4LeftAheadOfTheEarlierOne() {
        bound(17, BETWEEN).run(lend(0, 0) + "; back 0; look 0 0;" + lend(1, 0) + "; back 0; look 0 1; blame 0 0 = 1");
    }

    private static void part4CameBehindTheLaterOne() {
        bound(17, BETWEEN)
            .run("look 0 0;" + lend(1, 0) + "; back 0; look 0 1;" + lend(0, 0) + "; blame 0 0 = 1; look 0 1;"
                + "blame 0 0 = 1");
    }

    private static void part4TheFirstHomeAndTheLast() {
        Bound b = new Bound(17, BETWEEN).run("work 0 20 0");
        for (int home = 0; home < 20; home++) {
            b.run("home 0 9; look 0 0;" + lend(home, 0) + "; look 0 1; blame 0 0 = " + home + "; back 0");
        }
    }

    private static void part4AnotherWorkOfAnotherHome() {
        bound(17, BETWEEN)
            .run("look 0 0; look 1 0;" + lend(0, 0) + ";" + lend(1, 1) + "; look 0 1; look 1 1; blame 0 0 = 0;"
                + "blame 1 0 = 1");
    }

    private static void part4TwiceTheSameHome() {
        bound(17, "if it is just one HOME")
            .run(lend(1, 0) + "; look 0 0; back 0;" + lend(1, 0) + "; back 0;" + lend(1, 0) + "; look 0 1;"
                + "blame 0 0 = 1");
    }

    private static void part4NoLookAhead() {
        bound(17, "in DOUBT, if there is no LOOK ahead")
            .run(lend(0, 0) + "; look 0 1; blame 0 0 = DOUBT; look 0 1; blame 0 0 = DOUBT; look 0 3; blame 0 0 = DOUBT;"
                + "blame 0 1 = 0");
    }

    private static void part4NoneHadIt() {
        bound(17, "in DOUBT, if ... none or several had it")
            .run("look 0 0; go 9; look 0 1; blame 0 0 = DOUBT;" + lend(0, 0) + "; blame 0 0 = DOUBT; look 0 1;"
                + "blame 0 0 = DOUBT");
    }

    private static void part4OneAtTheEarlierAndOneBetween() {
        bound(17, "in DOUBT, if ... none or several had it")
            .run(lend(0, 0) + "; look 0 0; back 0;" + lend(1, 0) + "; look 0 1; blame 0 0 = DOUBT; look 0 3;"
                + "blame 0 1 = 1");
    }

    private static void part4TwoBetween() {
        bound(17, "in DOUBT, if ... none or several had it")
            .run("look 0 0;" + lend(0, 0) + "; back 0;" + lend(1, 0) + "; back 0; look 0 1; blame 0 0 = DOUBT")
            .run("look 0 0;" + lend(0, 0) + "; back 0;" + lend(1, 0) + "; back 0;" + lend(0, 0) + "; look 0 1;"
                + "blame 0 0 = DOUBT");
    }

    private static void part4SoldAndLost() {
        bound(17, "Of which HOME a MARK at a place is")
            .run("look 0 0; look 1 0;" + lend(0, 0) + ";" + lend(1, 1) + "; look 0 1; look 1 1; sell 0; lose 1;"
                + "blame 0 0 = 0; blame 1 0 = 1; blame 0 1 = NONE")
            .refused("look 0 0; look 1 0")
            .run("blame 0 0 = 0; blame 1 0 = 1");
    }
}
