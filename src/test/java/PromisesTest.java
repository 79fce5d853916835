/** Each promise of the document by its number: ordinary inputs, the edges that it names, wrong inputs. */
public final class PromisesTest {
    private static final int MIN = Integer.MIN_VALUE;
    private static final int MAX = Integer.MAX_VALUE;

    public static void main(String[] args) {
        promise1();
        promise2();
        promise3();
        promise4();
        promise5();
        promise5InForce();
        promise5Without();
        promise6();
        promise7();
        promise7Most();
        promise8();
        promise9();
        promise10();
        promise10Room();
        promise11Taken();
        promise11Refused();
        promise12();
        promise12RuleOfDays();
        promise13();
        promise13Least();
        promise14();
        promise15();
        promise16();
        promise17();
        promise17Several();
        promise18And19();
        promise18Ties();
        promise18Most();
        promise20();
        promise21();
        promise22();
        promise23();
        promise24();
        Due.end();
    }

    /** A HOME in TOWN 1 and one in TOWN 2, a WORK of ARTIST 3 worth 400 (20 POINTS) in TOWN 0. */
    private static PicturesLent small() {
        PicturesLent x = new PicturesLent();
        x.far(0, 1, 30);
        x.far(0, 2, 50);
        x.home(1, 100);
        x.home(2, 100);
        x.work(3, 400, 0);
        return x;
    }

    private static void lend(PicturesLent x, int home, int work) {
        x.wish(home, work);
        Due.yes("offer(" + work + ", true)", x.offer(work, true));
        Due.is("lent to", home, x.told(work, 1));
    }

    private static void promise1() {
        PicturesLent x = new PicturesLent();
        for (int what = 0; what <= 8; what++) {
            Due.is("1: count(" + what + ")", 0, x.count(what));
        }
        Due.is("1: no home", -1, x.homed(0, 0));
        Due.is("1: no work", -1, x.told(0, 0));
        Due.is("1: no wish", -1, x.wished(0, 0));
        Due.is("1: no miles", -1, x.miles());
        PicturesLent other = new PicturesLent();
        other.home(0, 10);
        other.go(7);
        Due.is("1: objects share nothing", 0, x.count(0) + x.count(1));
    }

    private static void promise2() {
        PicturesLent x = new PicturesLent();
        Due.yes("2: far(0, 3, 500)", x.far(0, 3, 500));
        Due.yes("2: far(2, 1, 0)", x.far(2, 1, 0));
        Due.no("2: far(0, 3, 501)", x.far(0, 3, 501));
        Due.no("2: far(0, 3, -1)", x.far(0, 3, -1));
        Due.no("2: far(2, 2, 0)", x.far(2, 2, 0));
        Due.no("2: far(4, 0, 1)", x.far(4, 0, 1));
        Due.no("2: far(0, 4, 1)", x.far(0, 4, 1));
        Due.no("2: far(-1, 0, 1)", x.far(-1, 0, 1));
        Due.no("2: far(0, -1, 1)", x.far(0, -1, 1));
        Due.no("2: far(MAX, MIN, 1)", x.far(MAX, MIN, 1));
        x.home(0, 100);
        x.work(0, 20, 3);
        lend(x, 0, 0);
        Due.is("2: the same both ways", 500, x.count(5));
        x.work(0, 20, 1);
        lend(x, 0, 1);
        Due.is("2: 0 at first", 500, x.count(5));
        x.far(1, 0, 9);
        x.work(0, 20, 1);
        lend(x, 0, 2);
        Due.is("2: told anew", 509, x.count(5));
    }

    private static void promise3() {
        PicturesLent x = new PicturesLent();
        Due.is("3: town 4", -1, x.home(4, 10));
        Due.is("3: town -1", -1, x.home(-1, 10));
        Due.is("3: limit -1", -1, x.home(0, -1));
        Due.is("3: limit 1001", -1, x.home(0, 1001));
        for (int i = 0; i < 20; i++) {
            Due.is("3: home", i, x.home(i % 4, i % 2 * 1000));
        }
        Due.is("3: the 21st", -1, x.home(0, 10));
        Due.is("3: homes", 20, x.count(1));
        Due.is("3: the last one's town", 3, x.homed(19, 0));
    }

    private static void promise4() {
        PicturesLent x = new PicturesLent();
        Due.is("4: artist 10", -1, x.work(10, 100, 0));
        Due.is("4: artist -1", -1, x.work(-1, 100, 0));
        Due.is("4: worth 19", -1, x.work(0, 19, 0));
        Due.is("4: worth 4001", -1, x.work(0, 4001, 0));
        Due.is("4: town 4", -1, x.work(0, 100, 4));
        Due.is("4: town -1", -1, x.work(0, 100, -1));
        for (int i = 0; i < 40; i++) {
            Due.is("4: work", i, x.work(i % 10, i % 2 == 0 ? 20 : 4000, i % 4));
        }
        Due.is("4: the 41st", -1, x.work(0, 100, 0));
        Due.is("4: works", 40, x.count(2));
        Due.is("4: in a store", 0, x.told(39, 0));
        Due.is("4: its town", 3, x.told(39, 2));
        Due.is("4: points", 200, x.told(39, 7));
    }

    private static void promise5() {
        PicturesLent x = new PicturesLent();
        Due.no("5: day -1", x.rule(-1, 1000090, 0));
        Due.no("5: day 20001", x.rule(20001, 1000090, 0));
        Due.no("5: term 0", x.rule(0, 1000000, 0));
        Due.no("5: term 401", x.rule(0, 1000401, 0));
        Due.no("5: term 9999", x.rule(0, 9999, 0));
        Due.no("5: age 10", x.rule(0, 10000090, 0));
        Due.no("5: what -1", x.rule(0, -1, 0));
        Due.no("5: what -9999", x.rule(0, -9999, 0));
        Due.no("5: what MIN", x.rule(0, MIN, 0));
        Due.no("5: what MAX", x.rule(0, MAX, 0));
        Due.no("5: rate 100", x.rule(0, 90, 100000));
        Due.no("5: part 101", x.rule(0, 90, 101));
        Due.no("5: part 999", x.rule(0, 90, 999));
        Due.no("5: coins -1", x.rule(0, 90, -1));
        Due.no("5: coins -1000", x.rule(0, 90, -1000));
        Due.no("5: coins MIN", x.rule(0, 90, MIN));
        Due.yes("5: the greatest", x.rule(20000, 9990400, 99100));
        Due.yes("5: the least", x.rule(0, 1, 0));
        for (int i = 2; i < 60; i++) {
            Due.yes("5: rule " + i, x.rule(i, 1000090, 10000));
        }
        Due.no("5: the 61st", x.rule(7, 1000090, 10000));
    }

    private static void promise5InForce() {
        PicturesLent x = small();
        x.wish(0, 0);
        x.go(10);
        Due.is("5: without a rule AGE is 1", 10, x.rank(0));
        x.rule(11, 9000090, 0);
        Due.is("5: a rule of tomorrow", 10, x.rank(0));
        x.rule(10, 2000090, 0);
        Due.is("5: a rule of today", 20, x.rank(0));
        x.rule(9, 3000090, 0);
        Due.is("5: a lesser day told later", 20, x.rank(0));
        x.rule(10, 4000090, 0);
        Due.is("5: of like days the latest told", 40, x.rank(0));
        x.go(1);
        Due.is("5: a greater day told earlier", 99, x.rank(0));
        x.rule(0, 90, 0);
        Due.is("5: a rule of the first day", 99, x.rank(0));
        PicturesLent y = small();
        y.wish(0, 0);
        y.go(30);
        y.rule(0, 90, 0);
        Due.is("5: a rule of day 0 is ahead of what goes without one", 0, y.rank(0));
    }

    private static void promise5Without() {
        PicturesLent x = new PicturesLent();
        x.home(0, 1000);
        x.work(0, 4000, 0);
        lend(x, 0, 0);
        x.go(90);
        Due.is("5: without a rule TERM is 90", 0, x.told(0, 4));
        x.go(1);
        Due.is("5: without a rule TERM is 90", 1, x.told(0, 4));
        Due.is("5: without a rule RATE is 10", 4 * 40, x.back(0));
        Due.is("5: without a rule PART is 0", 0, x.artist(0));
        x.wish(0, 0);
        x.go(60);
        Due.is("5: without a rule REST is 0", 60, x.rank(1));
    }

    private static void promise6() {
        PicturesLent x = new PicturesLent();
        Due.is("6: go(0)", 0, x.go(0));
        Due.is("6: go(1)", 1, x.go(1));
        Due.is("6: go(-1)", -1, x.go(-1));
        Due.is("6: go(1001)", -1, x.go(1001));
        Due.is("6: go(MAX)", -1, x.go(MAX));
        Due.is("6: go(MIN)", -1, x.go(MIN));
        Due.is("6: go(1000)", 1001, x.go(1000));
        for (int i = 2; i < 20; i++) {
            x.go(1000);
        }
        Due.is("6: now", 19001, x.count(0));
        Due.is("6: to the last day", 20000, x.go(1000));
        Due.is("6: 20000 at most", 20000, x.go(1));
        Due.is("6: nor for another n there", -1, x.go(1001));
        Due.is("6: it is the last day", 20000, x.count(0));
    }

    private static void promise7() {
        PicturesLent x = small();
        x.work(0, 20, 0);
        Due.is("7: home 2", -1, x.wish(2, 0));
        Due.is("7: home -1", -1, x.wish(-1, 0));
        Due.is("7: work 2", -1, x.wish(0, 2));
        Due.is("7: work -1", -1, x.wish(0, -1));
        Due.is("7: first", 0, x.wish(0, 0));
        Due.is("7: an open one is there", -1, x.wish(0, 0));
        Due.is("7: another home", 1, x.wish(1, 0));
        Due.is("7: another work", 2, x.wish(0, 1));
        x.offer(0, true);
        Due.is("7: lent to that home", -1, x.wish(0, 0));
        x.unwish(1);
        Due.is("7: lent to another home", 3, x.wish(1, 0));
        x.back(0);
        Due.is("7: served ones are no hindrance", 4, x.wish(0, 0));
        Due.is("7: open", 3, x.count(4));
        x.unwish(3);
        x.offer(0, true);
        x.sell(0);
        Due.is("7: sold to it", -1, x.wish(0, 0));
        Due.is("7: sold to another", -1, x.wish(1, 0));
        x.offer(1, true);
        x.lose(1);
        Due.is("7: lost", -1, x.wish(1, 1));
    }

    private static void promise7Most() {
        PicturesLent x = small();
        for (int i = 0; i < 200; i++) {
            Due.is("7: wish", i, x.wish(0, 0));
            x.unwish(i);
        }
        Due.is("7: the 201st", -1, x.wish(0, 0));
        Due.is("7: wishes", 200, x.count(3));
        Due.is("7: no open one", 0, x.count(4));
    }

    private static void promise8() {
        PicturesLent x = small();
        x.wish(0, 0);
        x.wish(1, 0);
        Due.no("8: unwish(2)", x.unwish(2));
        Due.no("8: unwish(-1)", x.unwish(-1));
        Due.yes("8: unwish(0)", x.unwish(0));
        Due.is("8: gone", 2, x.wished(0, 0));
        Due.no("8: again", x.unwish(0));
        Due.is("8: the other one is next", 1, x.next(0));
        x.offer(0, true);
        Due.no("8: served", x.unwish(1));
        Due.is("8: stays served", 1, x.wished(1, 0));
    }

    private static void promise9() {
        PicturesLent x = small();
        x.rule(0, 2300090, 0);
        x.go(29);
        x.wish(0, 0);
        Due.is("9: at first", 0, x.rank(0));
        x.go(1);
        Due.is("9: 30 days since the home came", 2 + 3, x.rank(0));
        x.go(29);
        Due.is("9: 59 days, cut", 60 + 3, x.rank(0));
        x.go(1);
        Due.is("9: 60 days", 62 + 6, x.rank(0));
        x.work(0, 20, 0);
        lend(x, 0, 1);
        Due.is("9: the home got a work", 62, x.rank(0));
        x.go(30);
        Due.is("9: 30 days since it got one", 122 + 3, x.rank(0));
        x.sell(1);
        Due.is("9: a sale is no getting", 122 + 3, x.rank(0));
        Due.is("9: rank(2)", -1, x.rank(2));
        Due.is("9: rank(-1)", -1, x.rank(-1));
        Due.is("9: served", -1, x.rank(1));
        x.home(0, 500);
        x.wish(2, 0);
        Due.is("9: a home that came late", 0, x.rank(2));
        x.unwish(0);
        Due.is("9: gone", -1, x.rank(0));
    }

    private static void promise10() {
        PicturesLent x = small();
        Due.is("10: no wish", -1, x.next(0));
        Due.is("10: no such work", -1, x.next(1));
        Due.is("10: work -1", -1, x.next(-1));
        x.wish(1, 0);
        x.wish(0, 0);
        Due.is("10: of like ranks the least number", 0, x.next(0));
        x.unwish(0);
        x.go(1);
        x.wish(1, 0);
        Due.is("10: the greater rank", 1, x.next(0));
        x.offer(0, false);
        Due.is("10: who refused today is passed over", 2, x.next(0));
        x.offer(0, false);
        Due.is("10: all refused", -1, x.next(0));
        x.go(0);
        Due.is("10: still today", -1, x.next(0));
        x.go(1);
        Due.is("10: tomorrow", 1, x.next(0));
        x.offer(0, true);
        Due.is("10: lent", -1, x.next(0));
        x.back(0);
        Due.is("10: back", 2, x.next(0));
        x.offer(0, true);
        x.lose(0);
        Due.is("10: lost", -1, x.next(0));
        PicturesLent y = small();
        y.rule(0, 90, 0);
        y.wish(0, 0);
        y.go(5);
        y.wish(1, 0);
        Due.is("10: with AGE 0 all are alike", 0, y.next(0));
        y.rule(5, 900090, 0);
        y.work(0, 20, 0);
        lend(y, 0, 1);
        y.go(25);
        Due.is("10: by the rule of now", 1, y.next(0));
    }

    private static void promise10Room() {
        PicturesLent x = new PicturesLent();
        x.home(0, 30);
        x.home(0, 29);
        x.work(0, 419, 0);
        x.work(0, 219, 0);
        x.work(0, 20, 0);
        x.wish(1, 0);
        x.wish(0, 0);
        Due.is("10: room for 20 points", 0, x.next(0));
        lend(x, 0, 1);
        lend(x, 1, 2);
        Due.is("10: 21 points of 29", 0, x.next(0));
        x.unwish(0);
        Due.is("10: 30 points of 30", 1, x.next(0));
        x.work(0, 200, 0);
        lend(x, 1, 3);
        x.wish(1, 0);
        Due.is("10: 31 points of 29", 1, x.next(0));
        x.unwish(1);
        Due.is("10: no room", -1, x.next(0));
        x.sell(3);
        Due.is("10: what is sold takes no room", 5, x.next(0));
    }

    private static void promise11Taken() {
        PicturesLent x = small();
        Due.no("11: no wish", x.offer(0, true));
        Due.no("11: no such work", x.offer(1, true));
        Due.no("11: work -1", x.offer(-1, false));
        x.rule(0, 1000007, 0);
        x.wish(0, 0);
        x.wish(1, 0);
        x.go(3);
        Due.yes("11: taken", x.offer(0, true));
        Due.is("11: lent", 1, x.told(0, 0));
        Due.is("11: to home", 0, x.told(0, 1));
        Due.is("11: from now on", 3, x.told(0, 3));
        Due.is("11: served", 1, x.wished(0, 0));
        Due.is("11: the other one is open yet", 0, x.wished(1, 0));
        Due.is("11: miles", 30, x.count(5));
        Due.no("11: lent ones aren't offered", x.offer(0, true));
        x.rule(3, 1000400, 0);
        x.go(8);
        Due.is("11: the term stays", 1, x.told(0, 4));
        x.far(1, 2, 11);
        x.back(0);
        Due.is("11: no miles for the way back", 30, x.count(5));
        x.offer(0, true);
        Due.is("11: from the store of the home's town", 41, x.count(5));
    }

    private static void promise11Refused() {
        PicturesLent x = small();
        x.rule(0, 1020090, 0);
        x.wish(0, 0);
        for (int day = 1; day <= 2; day++) {
            x.go(1);
            Due.yes("11: refused", x.offer(0, false));
            Due.is("11: refusals", day, x.wished(0, 2));
            Due.is("11: stands since", 0, x.wished(0, 1));
        }
        Due.no("11: none is next today", x.offer(0, false));
        Due.is("11: what is refused changes nothing", 2, x.wished(0, 2));
        x.go(1);
        x.offer(0, false);
        Due.is("11: more than keep", 0, x.wished(0, 2));
        Due.is("11: stands since now", 3, x.wished(0, 1));
        Due.is("11: open yet", 0, x.wished(0, 0));
        Due.is("11: it refused today all the same", -1, x.next(0));
        Due.is("11: in the store yet", 0, x.told(0, 0));
        PicturesLent y = small();
        y.wish(0, 0);
        y.go(4);
        y.offer(0, false);
        Due.is("11: without a rule keep is 0", 4, y.wished(0, 1));
        Due.is("11: and no refusal stays", 0, y.wished(0, 2));
        y.unwish(0);
        y.wish(0, 0);
        Due.is("11: a new wish did not refuse", 1, y.next(0));
    }

    private static int rentAfter(int days, int worth, int rate) {
        PicturesLent x = new PicturesLent();
        x.home(0, 1000);
        x.work(0, worth, 0);
        x.rule(0, 1000090, rate * 1000);
        lend(x, 0, 0);
        x.go(days);
        return x.back(0);
    }

    private static void promise12() {
        Due.is("12: one at least", 8, rentAfter(0, 400, 20));
        Due.is("12: 1 day", 8, rentAfter(1, 400, 20));
        Due.is("12: 30 days", 8, rentAfter(30, 400, 20));
        Due.is("12: 31 days", 16, rentAfter(31, 400, 20));
        Due.is("12: 60 days", 16, rentAfter(60, 400, 20));
        Due.is("12: 61 days", 24, rentAfter(61, 400, 20));
        Due.is("12: cut for each 30 days", 3, rentAfter(90, 199, 10));
        Due.is("12: the greatest rate", 34 * 396, rentAfter(1000, 4000, 99));
        Due.is("12: rate 0", 0, rentAfter(100, 4000, 0));
        PicturesLent x = small();
        Due.is("12: in a store", -1, x.back(0));
        Due.is("12: no such work", -1, x.back(1));
        Due.is("12: work -1", -1, x.back(-1));
        x.rule(0, 1000090, 99033);
        lend(x, 0, 0);
        x.go(31);
        Due.is("12: rent", 78, x.back(0));
        Due.is("12: owed", 78, x.homed(0, 2));
        Due.is("12: the artist's part, cut", 25, x.artist(3));
        Due.is("12: in the store of the home's town", 1, x.told(0, 2));
        Due.is("12: of no home", -1, x.told(0, 1));
        Due.is("12: once only", -1, x.back(0));
        lend(x, 1, 0);
        x.lose(0);
        Due.is("12: lost", -1, x.back(0));
    }

    private static void promise12RuleOfDays() {
        PicturesLent x = small();
        x.rule(5, 1000090, 50050);
        x.go(4);
        lend(x, 0, 0);
        x.go(6);
        Due.is("12: the rate of the day on which it was lent", 4, x.back(0));
        Due.is("12: the part of now", 2, x.artist(3));
        lend(x, 0, 0);
        x.go(1);
        x.rule(10, 1000090, 70000);
        x.rule(11, 1000090, 90100);
        Due.is("12: as it is told now", 28, x.back(0));
        Due.is("12: all for the artist", 30, x.artist(3));
    }

    private static void promise13() {
        PicturesLent x = small();
        x.rule(0, 1000090, 21050);
        Due.is("13: in a store", -1, x.sell(0));
        Due.is("13: no such work", -1, x.sell(1));
        Due.is("13: work -1", -1, x.sell(-1));
        lend(x, 1, 0);
        x.back(0);
        lend(x, 0, 0);
        x.go(70);
        x.back(0);
        lend(x, 0, 0);
        x.wish(1, 0);
        x.go(10);
        Due.is("13: less half of that home's rents (24 + 8)", 384, x.sell(0));
        Due.is("13: rents and price are owed", 24 + 8 + 384, x.homed(0, 2));
        Due.is("13: the artist's part of the rents alone", 4 + 12 + 4, x.artist(3));
        Due.is("13: sold", 2, x.told(0, 0));
        Due.is("13: to home", 0, x.told(0, 1));
        Due.is("13: in no store", -1, x.told(0, 2));
        Due.is("13: no room taken", 0, x.homed(0, 1));
        Due.is("13: open wishes go", 2, x.wished(3, 0));
        Due.is("13: served ones stay", 1, x.wished(2, 0));
        Due.is("13: sales", 384, x.count(7));
        Due.is("13: sold once only", -1, x.sell(0));
        Due.no("13: can't be lost", x.lose(0));
        Due.is("13: nor come back", -1, x.back(0));
    }

    private static void promise13Least() {
        PicturesLent x = new PicturesLent();
        x.home(0, 1000);
        x.rule(0, 1000090, 99000);
        x.work(0, 1001, 0);
        x.work(0, 1011, 0);
        lend(x, 0, 0);
        lend(x, 0, 1);
        x.go(151);
        Due.is("13: 6 times 99, half of it", 1001 - 297, x.sell(0));
        x.go(149);
        Due.is("13: 10 times 100, half of it", 511, x.sell(1));
        x.work(0, 1001, 0);
        lend(x, 0, 2);
        x.go(1000);
        Due.is("13: half its worth at least, cut", 500, x.sell(2));
        x.work(0, 75, 0);
        lend(x, 0, 3);
        Due.is("13: half of 7, cut", 72, x.sell(3));
    }

    private static void promise14() {
        PicturesLent x = small();
        x.rule(0, 1000090, 20050);
        Due.no("14: in a store", x.lose(0));
        Due.no("14: no such work", x.lose(1));
        Due.no("14: work -1", x.lose(-1));
        x.wish(1, 0);
        x.wish(0, 0);
        x.offer(0, false);
        x.offer(0, true);
        x.go(31);
        Due.yes("14: lose(0)", x.lose(0));
        Due.is("14: rent and worth are owed", 16 + 400, x.homed(0, 2));
        Due.is("14: the artist's part", 8, x.artist(3));
        Due.is("14: lost", 3, x.told(0, 0));
        Due.is("14: by home", 0, x.told(0, 1));
        Due.is("14: open wishes go", 2, x.wished(0, 0));
        Due.is("14: the served one stays", 1, x.wished(1, 0));
        Due.is("14: no sale", 0, x.count(7));
        Due.is("14: rents of all", 16, x.count(6));
        Due.is("14: none lent", 0, x.homed(0, 3));
        Due.no("14: once only", x.lose(0));
        Due.is("14: can't be sold", -1, x.sell(0));
    }

    private static void promise15() {
        PicturesLent x = small();
        Due.is("15: owes nothing", -1, x.pay(0, 1));
        Due.is("15: nothing", -1, x.pay(0, 0));
        lend(x, 0, 0);
        x.lose(0);
        Due.is("15: no such home", -1, x.pay(2, 1));
        Due.is("15: home -1", -1, x.pay(-1, 1));
        Due.is("15: n 0", -1, x.pay(0, 0));
        Due.is("15: n -1", -1, x.pay(0, -1));
        Due.is("15: n MIN", -1, x.pay(0, MIN));
        Due.is("15: one too many", -1, x.pay(0, 405));
        Due.is("15: a part", 401, x.pay(0, 3));
        Due.is("15: one coin", 400, x.pay(0, 1));
        Due.is("15: another home owes nothing", -1, x.pay(1, 4));
        Due.is("15: all", 0, x.pay(0, 400));
        Due.is("15: rents ever stay", 4, x.homed(0, 4));
        Due.is("15: no more", -1, x.pay(0, 1));
    }

    private static void promise16() {
        PicturesLent x = small();
        x.work(0, 20, 0);
        Due.is("16: no such work", -1, x.look(2, 0));
        Due.is("16: work -1", -1, x.look(-1, 0));
        Due.is("16: marks -1", -1, x.look(0, -1));
        Due.is("16: marks 65536", -1, x.look(0, 65536));
        Due.is("16: first", 1, x.look(0, 65535));
        Due.is("16: of another work", 1, x.look(1, 0));
        lend(x, 0, 0);
        lend(x, 0, 1);
        Due.is("16: lent", 2, x.look(0, 0));
        x.sell(0);
        x.lose(1);
        Due.is("16: sold", -1, x.look(0, 0));
        Due.is("16: lost", -1, x.look(1, 0));
        x.work(0, 20, 0);
        for (int i = 1; i <= 297; i++) {
            Due.is("16: look", i, x.look(2, 1));
        }
        Due.is("16: the 301st", -1, x.look(2, 1));
        Due.is("16: looks", 300, x.count(8));
        Due.is("16: as far back as looks go", -2, x.blame(2, 0));
    }

    private static void promise17() {
        PicturesLent x = small();
        Due.is("17: no look", -1, x.blame(0, 0));
        x.look(0, 1);
        Due.is("17: no look ahead", -2, x.blame(0, 0));
        Due.is("17: no mark", -1, x.blame(0, 1));
        lend(x, 0, 0);
        Due.is("17: nothing new without a look", -2, x.blame(0, 0));
        x.look(0, 0x8003);
        Due.is("17: came to it between them", 0, x.blame(0, 1));
        Due.is("17: the last place", 0, x.blame(0, 15));
        Due.is("17: place 16", -1, x.blame(0, 16));
        Due.is("17: place 32", -1, x.blame(0, 32));
        Due.is("17: place -1", -1, x.blame(0, -1));
        Due.is("17: no such work", -1, x.blame(1, 0));
        Due.is("17: work -1", -1, x.blame(-1, 0));
        x.back(0);
        lend(x, 1, 0);
        x.back(0);
        x.look(0, 0x0003);
        Due.is("17: no longer seen", -1, x.blame(0, 15));
        Due.is("17: when it came first", 0, x.blame(0, 1));
        x.look(0, 0x0007);
        Due.is("17: in a store all the time", -2, x.blame(0, 2));
        lend(x, 1, 0);
        x.look(0, 0x8007);
        Due.is("17: it came anew behind the gap", 1, x.blame(0, 15));
        x.look(0, 0x800f);
        Due.is("17: lent at both looks", 1, x.blame(0, 3));
        x.sell(0);
        Due.is("17: sold ones are told, too", 1, x.blame(0, 3));
    }

    private static void promise17Several() {
        PicturesLent x = small();
        x.look(0, 0);
        lend(x, 0, 0);
        x.back(0);
        lend(x, 0, 0);
        x.look(0, 1);
        Due.is("17: the same home twice is just one", 0, x.blame(0, 0));
        x.back(0);
        lend(x, 1, 0);
        x.look(0, 3);
        Due.is("17: one at the earlier look, one later", -2, x.blame(0, 1));
        x.back(0);
        lend(x, 0, 0);
        x.back(0);
        lend(x, 1, 0);
        x.back(0);
        x.look(0, 7);
        Due.is("17: several", -2, x.blame(0, 2));
        x.look(0, 15);
        Due.is("17: none", -2, x.blame(0, 3));
        Due.is("17: the first mark yet", 0, x.blame(0, 0));
    }

    private static void promise18And19() {
        PicturesLent x = small();
        Due.is("18: no wish", -1, x.planned(0));
        Due.is("19: no wish", -1, x.miles());
        x.wish(1, 0);
        Due.is("18: the only one", 0, x.planned(0));
        Due.is("19: its miles", 50, x.miles());
        x.wish(0, 0);
        Due.is("18: the nearer one", 1, x.planned(0));
        Due.is("19: its miles", 30, x.miles());
        x.work(0, 20, 0);
        Due.is("18: no wish for this one", -1, x.planned(1));
        x.wish(0, 1);
        Due.is("18: most wishes", 0, x.planned(0));
        Due.is("18: most wishes", 2, x.planned(1));
        Due.is("19: most wishes", 80, x.miles());
        x.offer(0, false);
        x.offer(0, false);
        Due.is("18: who refused today is planned all the same", 0, x.planned(0));
        Due.is("18: no such work", -1, x.planned(2));
        Due.is("18: work -1", -1, x.planned(-1));
        x.unwish(0);
        Due.is("18: one home for two works: the first number", 1, x.planned(0));
        Due.is("18: one home for two works: none", -1, x.planned(1));
        x.far(0, 1, 31);
        Due.is("18: the same at other miles", -1, x.planned(1));
        x.far(0, 1, 30);
        Due.is("19: one of two", 30, x.miles());
        x.offer(1, true);
        Due.is("18: lent", -1, x.planned(1));
        Due.is("18: room beside what it has", 1, x.planned(0));
        x.work(0, 1600, 0);
        x.wish(0, 2);
        Due.is("18: no room for this one", -1, x.planned(2));
        Due.is("18: so it is no hindrance", 1, x.planned(0));
        x.back(1);
        x.unwish(1);
        Due.is("18: room again", 3, x.planned(2));
        x.far(0, 1, 0);
        Due.is("19: 0 miles", 0, x.miles());
    }

    private static void promise18Ties() {
        PicturesLent x = new PicturesLent();
        for (int i = 0; i < 3; i++) {
            x.home(0, 100);
            x.work(0, 20, 0);
        }
        x.wish(1, 1);
        x.wish(0, 1);
        x.wish(1, 0);
        x.wish(0, 0);
        Due.is("18: of like ones the first for the least work", 2, x.planned(0));
        Due.is("18: and then for the next one", 1, x.planned(1));
        x.wish(1, 2);
        x.wish(0, 2);
        Due.is("18: none behind all", 2, x.planned(0));
        Due.is("18: none behind all", 1, x.planned(1));
        Due.is("18: none behind all", -1, x.planned(2));
        x.wish(2, 0);
        Due.is("18: but most wishes first", 6, x.planned(0));
        Due.is("18: but most wishes first", 0, x.planned(1));
        Due.is("18: but most wishes first", 5, x.planned(2));
        Due.is("19: no miles", 0, x.miles());
    }

    private static void promise18Most() {
        PicturesLent x = new PicturesLent();
        x.far(0, 1, 100);
        for (int i = 0; i < 20; i++) {
            x.home(i < 10 ? 1 : 0, 100);
        }
        for (int i = 0; i < 5; i++) {
            x.work(0, 20, 0);
        }
        for (int work = 3; work >= 0; work--) {
            for (int home = 0; home < 20; home++) {
                x.wish(home, work);
            }
        }
        Due.is("18: four works", 60 + 10, x.planned(0));
        Due.is("18: four works", 40 + 11, x.planned(1));
        Due.is("18: four works", 20 + 12, x.planned(2));
        Due.is("18: four works", 13, x.planned(3));
        Due.is("19: four works", 0, x.miles());
        x.wish(0, 4);
        Due.is("18: five can't be asked", -1, x.planned(0));
        Due.is("19: five can't be asked", -1, x.miles());
        x.offer(3, true);
        Due.is("18: four again", 60 + 10, x.planned(0));
        Due.is("18: the far one", 80, x.planned(4));
        Due.is("19: four again", 100, x.miles());
    }

    private static void promise20() {
        PicturesLent x = small();
        x.go(4);
        x.work(9, 59, 3);
        x.rule(0, 1000010, 0);
        x.go(3);
        tells("20: in a store", x, 1, 0, -1, 3, -1, 0, 0, 3, 2);
        Due.is("20: what 8", -1, x.told(1, 8));
        Due.is("20: what -1", -1, x.told(1, -1));
        Due.is("20: no such work", -1, x.told(2, 0));
        Due.is("20: work -1", -1, x.told(-1, 0));
        lend(x, 1, 1);
        tells("20: lent", x, 1, 1, 1, -1, 7, 0, 1, 3, 2);
        x.go(10);
        Due.is("20: on the last day of its term", 0, x.told(1, 4));
        x.go(5);
        tells("20: late", x, 1, 1, 1, -1, 7, 5, 1, 3, 2);
        x.back(1);
        x.go(2);
        tells("20: back", x, 1, 0, -1, 2, -1, 0, 1, 5, 2);
        lend(x, 0, 1);
        x.go(50);
        x.sell(1);
        x.go(9);
        tells("20: sold", x, 1, 2, 0, -1, -1, 0, 2, 5, 2);
        lend(x, 1, 0);
        x.lose(0);
        x.go(9);
        tells("20: lost", x, 0, 3, 1, -1, -1, 0, 1, 83, 20);
    }

    private static void tells(String when, PicturesLent x, int work, int... due) {
        for (int what = 0; what < due.length; what++) {
            Due.is(when + " told(" + work + ", " + what + ")", due[what], x.told(work, what));
        }
    }

    private static void promise21() {
        PicturesLent x = small();
        x.work(0, 139, 0);
        homeIs("21: at first", x, 1, 2, 0, 0, 0, 0);
        lend(x, 1, 0);
        lend(x, 1, 1);
        homeIs("21: two works", x, 1, 2, 26, 0, 2, 0);
        x.back(0);
        homeIs("21: one back", x, 1, 2, 6, 4, 1, 4);
        x.pay(1, 3);
        x.lose(1);
        homeIs("21: one lost", x, 1, 2, 0, 1 + 1 + 139, 0, 5);
        homeIs("21: the other home", x, 0, 1, 0, 0, 0, 0);
        Due.is("21: what 5", -1, x.homed(0, 5));
        Due.is("21: what -1", -1, x.homed(0, -1));
        Due.is("21: no such home", -1, x.homed(2, 0));
        Due.is("21: home -1", -1, x.homed(-1, 0));
    }

    private static void homeIs(String when, PicturesLent x, int home, int... due) {
        for (int what = 0; what < due.length; what++) {
            Due.is(when + " homed(" + home + ", " + what + ")", due[what], x.homed(home, what));
        }
    }

    private static void promise22() {
        PicturesLent x = small();
        x.rule(0, 1010090, 0);
        x.go(6);
        x.wish(0, 0);
        x.go(1);
        x.offer(0, false);
        Due.is("22: open", 0, x.wished(0, 0));
        Due.is("22: stands since", 6, x.wished(0, 1));
        Due.is("22: refusals", 1, x.wished(0, 2));
        Due.is("22: what 3", -1, x.wished(0, 3));
        Due.is("22: what -1", -1, x.wished(0, -1));
        Due.is("22: no such wish", -1, x.wished(1, 0));
        Due.is("22: wish -1", -1, x.wished(-1, 0));
        x.go(1);
        x.offer(0, true);
        Due.is("22: served", 1, x.wished(0, 0));
        Due.is("22: stood since", 6, x.wished(0, 1));
        Due.is("22: refusals of a served one", 1, x.wished(0, 2));
    }

    private static void promise23() {
        PicturesLent x = new PicturesLent();
        x.home(0, 1000);
        x.rule(0, 1000090, 10050);
        x.work(9, 1000, 0);
        x.work(9, 500, 0);
        x.work(0, 300, 0);
        for (int work = 0; work < 3; work++) {
            lend(x, 0, work);
            x.back(work);
        }
        Due.is("23: of both works, cut for each", 5 + 2, x.artist(9));
        Due.is("23: another artist", 1, x.artist(0));
        Due.is("23: got nothing", 0, x.artist(5));
        Due.is("23: artist 10", -1, x.artist(10));
        Due.is("23: artist -1", -1, x.artist(-1));
    }

    private static void promise24() {
        PicturesLent x = small();
        x.work(0, 1000, 1);
        x.go(2);
        lend(x, 0, 0);
        lend(x, 0, 1);
        x.wish(1, 0);
        x.look(0, 0);
        x.look(1, 0);
        x.back(0);
        x.sell(1);
        int[] due = {2, 2, 2, 3, 1, 30, 14, 995, 2};
        for (int what = 0; what < due.length; what++) {
            Due.is("24: count(" + what + ")", due[what], x.count(what));
        }
        Due.is("24: what 9", -1, x.count(9));
        Due.is("24: what -1", -1, x.count(-1));
    }
}
