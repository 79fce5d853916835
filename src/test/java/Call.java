import java.util.List;
import java.util.Random;

/** The calls of the face by number, and random ones of them. */
record Call(int method, int a, int b, int c) {
    static final int METHODS = 23;

    private static final String[] NAMES = {
        "far", "home", "work", "rule", "go", "wish", "unwish", "rank", "next", "offer", "back", "sell",
        "lose", "pay", "look", "blame", "planned", "miles", "told", "homed", "wished", "artist", "count"
    };

    private static final int[] EXTREMES = {
        Integer.MIN_VALUE, Integer.MIN_VALUE + 1, -65536, -2, -1, 0, 1, 3, 4, 9, 10, 15, 16, 19, 20, 31, 32, 39, 40,
        99, 100, 101, 200, 300, 400, 401, 500, 501, 1000, 1001, 4000, 4001, 10000, 20000, 20001, 65535, 65536,
        99999, 100000, 9999999, 10000000, Integer.MAX_VALUE - 1, Integer.MAX_VALUE
    };

    private static final int[] ARGUMENTS = {
        3, 2, 3, 3, 1, 2, 1, 1, 1, 2, 1, 1, 1, 2, 2, 2, 1, 0, 2, 2, 2, 1, 1
    };

    @Override
    public String toString() {
        int[] all = {a, b, c};
        StringBuilder text = new StringBuilder(NAMES[method]).append('(');
        for (int i = 0; i < ARGUMENTS[method]; i++) {
            text.append(i == 0 ? "" : ", ").append(all[i]);
        }
        return text.append(')').toString();
    }

    /** A call that is written as its name and its arguments with blanks between, as in "offer 3 taken". */
    static Call of(String text) {
        String[] words = text.trim().split(" +");
        int method = List.of(NAMES).indexOf(words[0]);
        if (method < 0 || words.length - 1 != ARGUMENTS[method]) {
            throw new IllegalArgumentException("no such call: " + text);
        }
        int[] all = new int[3];
        for (int i = 1; i < words.length; i++) {
            all[i - 1] = number(words[i]);
        }
        return new Call(method, all[0], all[1], all[2]);
    }

    static int number(String word) {
        return switch (word) {
            case "NONE" -> -1;
            case "DOUBT" -> -2;
            case "MIN" -> Integer.MIN_VALUE;
            case "MAX" -> Integer.MAX_VALUE;
            case "taken", "true" -> 1;
            case "refused", "false" -> 0;
            default -> Integer.parseInt(word);
        };
    }

    /** Whether the answer tells that the call was refused, for those calls that change something. */
    boolean isRefusal(int answer) {
        return switch (NAMES[method]) {
            case "far", "rule", "unwish", "offer", "lose" -> answer == 0;
            case "home", "work", "go", "wish", "back", "sell", "pay", "look" -> answer == -1;
            default -> false;
        };
    }

    int on(PicturesLent x) {
        return switch (NAMES[method]) {
            case "far" -> x.far(a, b, c) ? 1 : 0;
            case "home" -> x.home(a, b);
            case "work" -> x.work(a, b, c);
            case "rule" -> x.rule(a, b, c) ? 1 : 0;
            case "go" -> x.go(a);
            case "wish" -> x.wish(a, b);
            case "unwish" -> x.unwish(a) ? 1 : 0;
            case "rank" -> x.rank(a);
            case "next" -> x.next(a);
            case "offer" -> x.offer(a, b > 0) ? 1 : 0;
            case "back" -> x.back(a);
            case "sell" -> x.sell(a);
            case "lose" -> x.lose(a) ? 1 : 0;
            case "pay" -> x.pay(a, b);
            case "look" -> x.look(a, b);
            case "blame" -> x.blame(a, b);
            case "planned" -> x.planned(a);
            case "miles" -> x.miles();
            case "told" -> x.told(a, b);
            case "homed" -> x.homed(a, b);
            case "wished" -> x.wished(a, b);
            case "artist" -> x.artist(a);
            default -> x.count(a);
        };
    }

    int on(SlowModel x) {
        return switch (NAMES[method]) {
            case "far" -> x.far(a, b, c) ? 1 : 0;
            case "home" -> x.home(a, b);
            case "work" -> x.work(a, b, c);
            case "rule" -> x.rule(a, b, c) ? 1 : 0;
            case "go" -> x.go(a);
            case "wish" -> x.wish(a, b);
            case "unwish" -> x.unwish(a) ? 1 : 0;
            case "rank" -> x.rank(a);
            case "next" -> x.next(a);
            case "offer" -> x.offer(a, b > 0) ? 1 : 0;
            case "back" -> x.back(a);
            case "sell" -> x.sell(a);
            case "lose" -> x.lose(a) ? 1 : 0;
            case "pay" -> x.pay(a, b);
            case "look" -> x.look(a, b);
            case "blame" -> x.blame(a, b);
            case "planned" -> x.planned(a);
            case "miles" -> x.miles();
            case "told" -> x.told(a, b);
            case "homed" -> x.homed(a, b);
            case "wished" -> x.wished(a, b);
            case "artist" -> x.artist(a);
            default -> x.count(a);
        };
    }

    /** A call with any arguments, the ends of the ranges among them. */
    static Call wild(Random random) {
        return new Call(random.nextInt(METHODS), wildNumber(random), wildNumber(random), wildNumber(random));
    }

    private static int wildNumber(Random random) {
        return random.nextInt(10) == 0 ? random.nextInt() : EXTREMES[random.nextInt(EXTREMES.length)];
    }

    /** A call that mostly can be, where so many HOMES and WORKS are in use and a go is so long at most. */
    static Call likely(Random random, int homes, int works, int days) {
        int method = random.nextInt(METHODS);
        if (random.nextInt(3) == 0) {
            method = new int[] {5, 9, 9, 10, 14, 4}[random.nextInt(6)];
        }
        int home = random.nextInt(homes + 1) - random.nextInt(2);
        int work = random.nextInt(works + 1) - random.nextInt(2);
        return switch (NAMES[method]) {
            case "far" -> new Call(method, random.nextInt(5), random.nextInt(4), random.nextInt(4) * random.nextInt(180));
            case "home" -> new Call(method, random.nextInt(4), random.nextInt(1010), 0);
            case "work" -> new Call(method, random.nextInt(10), worth(random), random.nextInt(4));
            case "rule" -> new Call(method, random.nextInt(days * 60 + 1), what(random), random.nextInt(101) * 1000 + random.nextInt(102));
            case "go" -> new Call(method, random.nextInt(days + 1), 0, 0);
            case "wish" -> new Call(method, home, work, 0);
            case "unwish", "rank" -> new Call(method, random.nextInt(60), 0, 0);
            case "offer" -> new Call(method, work, random.nextInt(3), 0);
            case "pay" -> new Call(method, home, random.nextInt(1000) * random.nextInt(2) + random.nextInt(30), 0);
            case "look" -> new Call(method, work, random.nextInt(65536) | random.nextInt(65536), 0);
            case "blame" -> new Call(method, work, random.nextInt(17), 0);
            case "told" -> new Call(method, work, random.nextInt(9), 0);
            case "homed" -> new Call(method, home, random.nextInt(6), 0);
            case "wished" -> new Call(method, random.nextInt(60), random.nextInt(4), 0);
            case "artist", "count" -> new Call(method, random.nextInt(11), 0, 0);
            default -> new Call(method, work, 0, 0);
        };
    }

    private static int worth(Random random) {
        return random.nextBoolean() ? 20 + random.nextInt(400) : 20 + random.nextInt(3990);
    }

    private static int what(Random random) {
        return random.nextInt(1000) * 10000 + (random.nextBoolean() ? 1 + random.nextInt(60) : random.nextInt(402));
    }
}
