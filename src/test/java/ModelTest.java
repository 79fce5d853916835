import java.util.Random;

/** Random runs of at most 512 calls, each answer against that of SlowModel. */
public final class ModelTest {
    private static final int CALLS = 512;

    public static void main(String[] args) {
        for (int run = 0; run < 3000; run++) {
            compare(run, new Random(run));
        }
        for (int run = 0; run < 60; run++) {
            comparePlans(run, new Random(7000 + run));
        }
        for (int run = 0; run < 2000; run++) {
            comparePinned(run, new Random(20000 + run));
        }
        for (int run = 0; run < 200; run++) {
            compareWild(run, new Random(9000 + run));
        }
        Due.end();
    }

    private static void both(String run, Call call, PicturesLent x, SlowModel model) {
        Due.is(run + " " + call, call.on(model), call.on(x));
    }

    private static void compare(int run, Random random) {
        PicturesLent x = new PicturesLent();
        SlowModel model = new SlowModel();
        int homes = 1 + random.nextInt(run % 5 == 0 ? 21 : 6);
        int works = 1 + random.nextInt(run % 7 == 0 ? 41 : 5);
        int days = new int[] {1, 5, 40, 100, 1000}[random.nextInt(5)];
        int used = 0;
        for (int i = 0; i < homes; i++, used++) {
            both("run " + run, new Call(1, random.nextInt(4), random.nextInt(1001), 0), x, model);
        }
        for (int i = 0; i < works; i++, used++) {
            both("run " + run, new Call(2, random.nextInt(10), 20 + random.nextInt(1500), random.nextInt(4)), x, model);
        }
        for (; used < CALLS; used++) {
            both("run " + run, Call.likely(random, homes, works, days), x, model);
        }
    }

    /** Many HOMES that wish for few WORKS, and few different MILES, so that many plans are alike. */
    private static void comparePlans(int run, Random random) {
        PicturesLent x = new PicturesLent();
        SlowModel model = new SlowModel();
        int works = 1 + random.nextInt(5);
        int steps = 1 + random.nextInt(4);
        for (int a = 0; a < 4; a++) {
            for (int b = 0; b < a; b++) {
                both("plan run " + run, new Call(0, a, b, random.nextInt(steps) * 10), x, model);
            }
        }
        for (int i = 0; i < 20; i++) {
            both("plan run " + run, new Call(1, random.nextInt(4), 5 + random.nextInt(100), 0), x, model);
        }
        for (int i = 0; i < works; i++) {
            both("plan run " + run, new Call(2, 0, 20 + random.nextInt(800), random.nextInt(4)), x, model);
        }
        int wished = 5 + random.nextInt(60);
        for (int i = 0; i < wished; i++) {
            both("plan run " + run, new Call(5, random.nextInt(20), random.nextInt(works), 0), x, model);
        }
        for (int i = 0; i < 12; i++) {
            both("plan run " + run, new Call(17, 0, 0, 0), x, model);
            both("plan run " + run, new Call(16, random.nextInt(works), 0, 0), x, model);
            both("plan run " + run, new Call(16, random.nextInt(works), 0, 0), x, model);
            both("plan run " + run, new Call(6, random.nextInt(wished), 0, 0), x, model);
            both("plan run " + run, new Call(9, random.nextInt(works), random.nextInt(2), 0), x, model);
            both("plan run " + run, new Call(5, random.nextInt(20), random.nextInt(works), 0), x, model);
            both("plan run " + run, new Call(10, random.nextInt(works), 0, 0), x, model);
        }
    }

    /** Three WORKS can go to one HOME each, so that the fourth one has to pass over up to three of its best. */
    private static void comparePinned(int run, Random random) {
        PicturesLent x = new PicturesLent();
        SlowModel model = new SlowModel();
        String name = "pinned run " + run;
        for (int a = 0; a < 4; a++) {
            for (int b = 0; b < a; b++) {
                both(name, new Call(0, a, b, random.nextInt(5)), x, model);
            }
        }
        int homes = 4 + random.nextInt(6);
        for (int i = 0; i < homes; i++) {
            both(name, new Call(1, random.nextInt(4), 100, 0), x, model);
        }
        int free = random.nextInt(4);
        for (int work = 0; work < 4; work++) {
            both(name, new Call(2, 0, 20, random.nextInt(4)), x, model);
            if (work != free) {
                both(name, new Call(5, random.nextInt(homes), work, 0), x, model);
            }
        }
        for (int i = 0; i < 3 * homes; i++) {
            both(name, new Call(5, random.nextInt(homes), free, 0), x, model);
        }
        both(name, new Call(17, 0, 0, 0), x, model);
        for (int work = 0; work < 4; work++) {
            both(name, new Call(16, work, 0, 0), x, model);
        }
    }

    private static void compareWild(int run, Random random) {
        PicturesLent x = new PicturesLent();
        SlowModel model = new SlowModel();
        for (int i = 0; i < CALLS; i++) {
            Call call = random.nextInt(3) == 0 ? Call.wild(random) : Call.likely(random, 4, 4, 400);
            both("wild run " + run, call, x, model);
        }
    }
}
