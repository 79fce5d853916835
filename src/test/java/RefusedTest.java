import java.util.Random;

/** What is refused changes nothing; no call throws; the same calls give the same answers. */
public final class RefusedTest {
    private static final int CALLS = 512;

    public static void main(String[] args) {
        for (int run = 0; run < 1000; run++) {
            compare(run, new Random(run));
        }
        for (int run = 0; run < 200; run++) {
            neverThrows(new Random(5000 + run));
        }
        Due.end();
    }

    /** One object hears all calls, the other one only those that the first did not refuse. */
    private static void compare(int run, Random random) {
        PicturesLent hearsAll = new PicturesLent();
        PicturesLent hearsSome = new PicturesLent();
        int likely = random.nextInt(100);
        for (int i = 0; i < CALLS; i++) {
            Call call = random.nextInt(100) < likely ? Call.likely(random, 4, 4, 60) : Call.wild(random);
            int answer = call.on(hearsAll);
            if (!call.isRefusal(answer)) {
                Due.is("run " + run + " " + call, answer, call.on(hearsSome));
            }
        }
    }

    /** Beyond 512 calls the answers are free, but there must be one. */
    private static void neverThrows(Random random) {
        PicturesLent x = new PicturesLent();
        for (int i = 0; i < 5000; i++) {
            Call call = random.nextBoolean() ? Call.likely(random, 20, 40, 30) : Call.wild(random);
            try {
                call.on(x);
                Due.is("any answer", 0, 0);
            } catch (RuntimeException e) {
                Due.is(call + " threw " + e, 0, 1);
            }
        }
    }
}
