/** A test for each promise of the document: ordinary inputs, the edges that it names, and wrong inputs. */
public final class PromisesTest {
    private static final int NONE = TongueSwap.NONE;
    private static final int MIN = Integer.MIN_VALUE;
    private static final int MAX = Integer.MAX_VALUE;
    private static final Check check = new Check("promises");

    public static void main(String[] args) {
        promise1();
        promise2();
        promise3();
        promise4();
        promise5();
        promise6();
        promise7();
        promise8();
        promise9();
        promise10();
        promise11();
        promise12OfTwo();
        promise12OfThree();
        promise13Empty();
        promise13Waiting();
        promise13Choice();
        promise13FirstSet();
        promise13Fourteen();
        promise13Longest();
        promise14();
        promise15();
        promise16();
        promise17();
        promise18();
        promise19();
        promise20();
        promise21();
        promise22();
        promise23();
        promise24();
        promise25();
        promise26();
        promise27();
        check.end();
    }

    private static void due(String what, Object got, Object due) {
        check.due(what, got, due);
    }

    private static void promise1() {
        TongueSwap x = new TongueSwap();
        for (int what = 0; what <= 4; what++) {
            due("1 count(" + what + ")", x.count(what), 0);
        }
        due("1 rings", x.rings(), 0);
        due("1 mark(NONE)", x.mark(NONE), 0);
        check.noSuch("1 no learner", () -> x.waited(0));
    }

    private static void promise2() {
        TongueSwap x = new TongueSwap();
        for (int i = 0; i < 14; i++) {
            due("2 number", x.learner(-1), i);
        }
        due("2 a fifteenth", x.learner(1), NONE);
        due("2 learners", x.count(0), 14);
        due("2 the lowest 24 bits", x.hours(13, 0), 0xFFFFFF);
        check.noSuch("2 no learner 14", () -> x.waited(14));
        check.noSuch("2 no learner 14", () -> x.ring(0, 1, 14, 0));
    }

    private static void promise3() {
        TongueSwap x = Scene.learners(5, 0x1000000);
        due("3 were", x.hours(0, 0xFF000003), 5);
        due("3 were then", x.hours(0, 8), 3);
        due("3 only 24 bits", x.hours(1, 8), 0);
        due("3 meet by the new ones", x.meet(0, 1), 3);
        check.noSuch("3 below", () -> x.hours(-1, 0));
        check.noSuch("3 above", () -> x.hours(2, 0));
        check.noSuch("3 far", () -> x.hours(MIN, 0));
        check.noSuch("3 far", () -> x.hours(MAX, 0));
    }

    private static void promise4() {
        TongueSwap x = Scene.learners(0);
        due("4 at first", x.claim(0, 7, 10), 0);
        due("4 then", x.claim(0, 7, 0), 10);
        due("4 then", x.claim(0, 7, 3), 0);
        check.illegal("4 above", () -> x.claim(0, 7, 11));
        check.illegal("4 below", () -> x.claim(0, 7, -1));
        check.noSuch("4 learner", () -> x.claim(1, 0, 1));
        check.noSuch("4 learner", () -> x.claim(-1, 0, 1));
        check.noSuch("4 tongue", () -> x.claim(0, 8, 1));
        check.noSuch("4 tongue", () -> x.claim(0, -1, 1));
        check.noSuch("4 tongue first", () -> x.claim(0, 8, 11));
        check.noSuch("4 learner first", () -> x.claim(1, 0, 11));
        due("4 unchanged", x.level(0, 7, 2), 3);
        due("4 another tongue", x.level(0, 6, 2), 0);
    }

    private static void promise5() {
        TongueSwap x = Scene.masters(3);
        due("5 one", x.want(0, 2), 1);
        due("5 that one is", x.want(0, 2), NONE);
        due("5 two", x.want(0, 1), 2);
        due("5 there are two", x.want(0, 5), NONE);
        due("5 there are two and it is one", x.want(0, 1), NONE);
        x.claim(1, 2, 9);
        due("5 the first comes first", x.gift(1, 0), 2);
        check.noSuch("5 learner", () -> x.want(3, 0));
        check.noSuch("5 tongue", () -> x.want(0, 8));
        check.noSuch("5 tongue", () -> x.want(1, -1));
    }

    private static void promise6() {
        TongueSwap x = Scene.masters(2);
        due("6 none", x.unwant(0), 0);
        x.want(0, 1);
        x.want(0, 2);
        due("6 two", x.unwant(0), 2);
        due("6 gone", x.unwant(0), 0);
        due("6 no gift", x.gift(1, 0), NONE);
        due("6 again", x.want(0, 1), 1);
        due("6 one", x.unwant(0), 1);
        check.noSuch("6 learner", () -> x.unwant(2));
    }

    private static void promise7() {
        TongueSwap x = Scene.learners(1, 1, 1);
        due("7 none", x.bar(0, 1, false), false);
        due("7 none yet", x.bar(0, 1, true), false);
        due("7 both ways", x.bar(1, 0, true), true);
        due("7 no meeting", x.meet(1, 0), NONE);
        due("7 others meet", x.meet(0, 2), 0);
        due("7 away", x.bar(1, 0, false), true);
        due("7 away both ways", x.bar(0, 1, false), false);
        due("7 meeting", x.meet(0, 1), 0);
        check.noSuch("7 one", () -> x.bar(1, 1, true));
        check.noSuch("7 learner", () -> x.bar(0, 3, true));
        check.noSuch("7 learner", () -> x.bar(-1, 0, true));
        check.noSuch("7 both wrong", () -> x.bar(-1, -1, true));
    }

    private static void promise8() {
        TongueSwap x = Scene.learners(0);
        due("8 passed", x.test(0, 0, 5, true), true);
        due("8 low", x.level(0, 0, 0), 4);
        due("8 passed less", x.test(0, 0, 2, true), true);
        due("8 low stays", x.level(0, 0, 0), 4);
        due("8 failed at the edge", x.test(0, 0, 4, false), true);
        due("8 high", x.level(0, 0, 1), 4);
        due("8 failed more", x.test(0, 0, 9, false), true);
        due("8 high stays", x.level(0, 0, 1), 4);
        due("8 odd fail", x.test(0, 0, 3, false), false);
        due("8 odd pass", x.test(0, 0, 6, true), false);
        due("8 low stays", x.level(0, 0, 0), 4);
        due("8 high stays", x.level(0, 0, 1), 4);
        due("8 passed at the edge", x.test(0, 0, 5, true), true);
        due("8 sound", x.level(0, 0, 3), 5);
        due("8 odd", x.level(0, 0, 4), 2);
        due("8 top", x.test(0, 1, 10, true) && x.level(0, 1, 0) == 9, true);
        due("8 bottom", x.test(0, 2, 1, false) && x.level(0, 2, 1) == 1, true);
        due("8 lowest pass", x.test(0, 3, 1, true) && x.level(0, 3, 0) == 0, true);
        due("8 highest fail", x.test(0, 3, 10, false) && x.level(0, 3, 1) == 10, true);
        check.illegal("8 grade", () -> x.test(0, 0, 0, true));
        check.illegal("8 grade", () -> x.test(0, 0, 11, false));
        check.noSuch("8 learner", () -> x.test(1, 0, 0, true));
        check.noSuch("8 tongue", () -> x.test(0, 8, 0, true));
        check.noSuch("8 tongue", () -> x.test(0, -1, 1, true));
        due("8 still", x.level(0, 0, 3) * 10 + x.level(0, 0, 4), 52);
    }

    private static void promise9() {
        TongueSwap x = Scene.learners(0);
        int[] first = {0, 10, 0, 0, 0, 0};
        for (int what = 0; what < 6; what++) {
            due("9 at first " + what, x.level(0, 3, what), first[what]);
        }
        x.claim(0, 3, 7);
        due("9 claim of 7", x.level(0, 3, 5), 0);
        x.claim(0, 3, 8);
        due("9 claim of 8", x.level(0, 3, 5), 1);
        x.test(0, 3, 10, false);
        due("9 tested", x.level(0, 3, 5), 0);
        x.test(0, 3, 7, true);
        due("9 low of 6", x.level(0, 3, 5), 0);
        x.test(0, 3, 8, true);
        due("9 low of 7", x.level(0, 3, 5), 1);
        x.claim(0, 3, 0);
        due("9 low of 7 without a claim", x.level(0, 3, 5), 1);
        check.noSuch("9 what", () -> x.level(0, 3, 6));
        check.noSuch("9 what", () -> x.level(0, 3, -1));
        check.noSuch("9 learner", () -> x.level(1, 3, 0));
        check.noSuch("9 tongue", () -> x.level(0, 8, 0));
    }

    private static void promise10() {
        TongueSwap x = Scene.masters(3);
        x.want(0, 5);
        x.want(0, 1);
        due("10 the second want", x.gift(1, 0), 1);
        x.claim(1, 5, 9);
        due("10 the first want", x.gift(1, 0), 5);
        due("10 not backwards", x.gift(0, 1), NONE);
        due("10 not from another", x.gift(2, 0), NONE);
        x.bar(0, 1, true);
        due("10 a bar is no matter", x.gift(1, 0), 5);
        check.noSuch("10 one", () -> x.gift(1, 1));
        check.noSuch("10 learner", () -> x.gift(0, 3));
        check.noSuch("10 learner", () -> x.gift(3, 0));
    }

    private static void promise11() {
        TongueSwap x = Scene.learners(0x800001, 0x800000, 6, 12);
        due("11 the last hour", x.meet(0, 1), 23);
        due("11 none", x.meet(0, 2), NONE);
        due("11 the least", x.meet(2, 3), 2);
        due("11 likewise", x.meet(3, 2), 2);
        x.bar(2, 3, true);
        due("11 a bar", x.meet(3, 2), NONE);
        check.noSuch("11 one", () -> x.meet(2, 2));
        check.noSuch("11 learner", () -> x.meet(4, 2));
        check.noSuch("11 learner", () -> x.meet(2, NONE));
    }

    private static void promise12OfTwo() {
        TongueSwap x = Scene.masters(3);
        x.want(0, 1);
        due("12 one way", x.ring(0, 1, NONE, 0), NONE);
        x.want(1, 0);
        due("12 both ways", x.ring(0, 1, NONE, 0), 0);
        x.hours(1, 0x30);
        due("12 the least hour", x.ring(0, 1, NONE, 0), 4);
        due("12 not the least first", x.ring(1, 0, NONE, 0), NONE);
        due("12 two are one", x.ring(0, 0, NONE, 0), NONE);
        x.bar(0, 1, true);
        due("12 a bar", x.ring(0, 1, NONE, 0), NONE);
        check.noSuch("12 i of two", () -> x.ring(0, 1, NONE, 1));
        check.noSuch("12 i of two", () -> x.ring(0, 1, NONE, -1));
        check.noSuch("12 i of no ring", () -> x.ring(1, 1, NONE, 1));
        check.noSuch("12 learner", () -> x.ring(3, 1, NONE, 0));
        check.noSuch("12 learner", () -> x.ring(0, NONE, NONE, 0));
        check.noSuch("12 learner", () -> x.ring(0, 1, 3, 0));
        check.noSuch("12 learner", () -> x.ring(0, 1, -2, 0));
    }

    private static void promise12OfThree() {
        TongueSwap x = Scene.masters(3);
        x.want(1, 0);
        x.want(2, 1);
        x.want(0, 2);
        int[] plain = {0, 1, 2};
        for (int i = 0; i < 3; i++) {
            due("12 hour " + i, x.ring(0, 1, 2, i), plain[i]);
        }
        due("12 the other way", x.ring(0, 2, 1, 0), NONE);
        due("12 turned", x.ring(1, 2, 0, 0), NONE);
        due("12 two are one", x.ring(0, 1, 1, 0), NONE);
        due("12 two are one", x.ring(0, 1, 0, 0), NONE);
        due("12 two are one", x.ring(0, 0, 1, 2), NONE);
        x.hours(0, 0b0011);
        x.hours(1, 0b1111);
        x.hours(2, 0b0111);
        // 0 and 1: 0, 1; 1 and 2: 0, 1, 2; 2 and 0: 0, 1: the first two must leave one of 0, 1.
        int[] tight = {0, 2, 1};
        for (int i = 0; i < 3; i++) {
            due("12 tight hour " + i, x.ring(0, 1, 2, i), tight[i]);
        }
        x.hours(2, 0b0011);
        due("12 three can't in two hours", x.ring(0, 1, 2, 0), NONE);
        x.hours(0, 0b1001);
        x.hours(1, 0b1011);
        x.hours(2, 0b0011);
        // 0 and 1: 0, 3; 1 and 2: 0, 1; 2 and 0: 0: the first must give way.
        int[] given = {3, 1, 0};
        for (int i = 0; i < 3; i++) {
            due("12 given hour " + i, x.ring(0, 1, 2, i), given[i]);
        }
        x.hours(0, 0b110);
        x.hours(1, 0b011);
        x.hours(2, 0b111);
        // 0 and 1: 1; 1 and 2: 0, 1; 2 and 0: 1, 2.
        int[] turned = {1, 0, 2};
        for (int i = 0; i < 3; i++) {
            due("12 turned hour " + i, x.ring(0, 1, 2, i), turned[i]);
        }
        x.hours(0, 0xA00000);
        x.hours(1, 0xE00000);
        x.hours(2, 0xE00000);
        int[] last = {21, 22, 23};
        for (int i = 0; i < 3; i++) {
            due("12 last hour " + i, x.ring(0, 1, 2, i), last[i]);
        }
        x.hours(0, -1);
        x.hours(1, -1);
        x.hours(2, -1);
        x.bar(0, 2, true);
        due("12 a bar", x.ring(0, 1, 2, 1), NONE);
        check.noSuch("12 i of three", () -> x.ring(0, 1, 2, 3));
        check.noSuch("12 i of three", () -> x.ring(0, 1, 2, -1));
    }

    private static void promise13Empty() {
        TongueSwap x = new TongueSwap();
        due("13 nobody", x.week(), 0);
        due("13 DAY", x.count(1), 7);
        due("13 weeks", x.count(2), 1);
    }

    private static void promise13Waiting() {
        TongueSwap x = Scene.masters(3);
        x.want(0, 1);
        x.want(0, 2);
        x.want(1, 0);
        x.want(2, 0);
        due("13 two meet", x.week(), 2);
        due("13 the first ones", Scene.rings(x), "(0 1)");
        due("13 waits", Scene.waits(x), "0 0 1");
        due("13 two meet", x.week(), 2);
        due("13 who waited", Scene.rings(x), "(0 2)");
        due("13 waits", Scene.waits(x), "0 1 0");
        x.week();
        due("13 in turns", Scene.rings(x), "(0 1)");
        due("13 LEARNERS of RINGS", x.count(3), 6);
    }

    private static void promise13Choice() {
        // 0 with 1, 2 with 3, and 1 with 2: two rings serve more than the one between them.
        TongueSwap x = Scene.masters(4);
        x.want(0, 1);
        x.want(1, 0);
        x.want(1, 2);
        x.want(2, 1);
        x.want(2, 3);
        x.want(3, 2);
        due("13 all", x.week(), 4);
        due("13 rings", Scene.rings(x), "(0 1)(2 3)");
        // 0, 1, 2 in a triangle serve more than the pair of 0 and 1.
        TongueSwap y = Scene.masters(3);
        y.want(0, 1);
        y.want(0, 2);
        y.want(1, 0);
        y.want(2, 1);
        due("13 three", y.week(), 3);
        due("13 the triangle", Scene.rings(y), "(0 1 2)");
        // Who waited longest counts more: 0 with 1 against 2 with 0.
        TongueSwap z = Scene.masters(3);
        z.want(0, 1);
        z.want(0, 2);
        z.want(1, 0);
        z.want(2, 0);
        z.bar(0, 2, true);
        for (int i = 0; i < 3; i++) {
            z.week();
        }
        z.bar(0, 2, false);
        due("13 waits", Scene.waits(z), "0 0 3");
        z.week();
        due("13 who waited longest", Scene.rings(z), "(0 2)");
    }

    private static void promise13FirstSet() {
        // Six who all can give to all: three pairs, not two triangles.
        TongueSwap x = new TongueSwap();
        for (int i = 0; i < 6; i++) {
            x.learner(-1);
            x.claim(i, 0, 9);
            x.want(i, 0);
        }
        due("13 six", x.week(), 6);
        due("13 fewer of three", Scene.rings(x), "(0 1)(2 3)(4 5)");
        // Of seven one ring must be of three: the pair (0 1) stands ahead of (0 1 2).
        x.learner(-1);
        x.claim(6, 0, 9);
        x.want(6, 0);
        due("13 seven", x.week(), 7);
        due("13 a row ahead of one that goes on", Scene.rings(x), "(0 1)(2 3)(4 5 6)");
        x.bar(0, 1, true);
        x.week();
        due("13 the next row", Scene.rings(x), "(0 2)(1 3)(4 5 6)");
        // 0 gives to 2, 2 to 1, 1 to 0: the row (0 2 1).
        TongueSwap y = Scene.masters(3);
        y.want(2, 0);
        y.want(1, 2);
        y.want(0, 1);
        y.hours(0, 0b011);
        y.hours(1, 0b110);
        y.hours(2, 0b111);
        due("13 the other way", y.week(), 3);
        due("13 the other way", Scene.rings(y), "(0 2 1)");
        due("13 its hours", y.ringOf(0, 3) * 100 + y.ringOf(0, 4) * 10 + y.ringOf(0, 5), 21);
    }

    private static void promise13Fourteen() {
        TongueSwap x = new TongueSwap();
        for (int i = 0; i < 14; i++) {
            x.learner(-1);
            x.claim(i, i % 2, 9);
            x.claim(i, 2, 9);
            x.want(i, 2);
        }
        due("13 all fourteen", x.week(), 14);
        due("13 seven pairs", Scene.rings(x), "(0 1)(2 3)(4 5)(6 7)(8 9)(10 11)(12 13)");
        due("13 the last", x.ringOf(6, 1), 13);
        x.unwant(0);
        due("13 thirteen", x.week(), 13);
        due("13 one of three", Scene.rings(x), "(1 2)(3 4)(5 6)(7 8)(9 10)(11 12 13)");
        due("13 waits", Scene.waits(x), "1 0 0 0 0 0 0 0 0 0 0 0 0 0");
        for (int i = 1; i < 14; i++) {
            x.unwant(i);
            x.want(i, 1 - i % 2);
        }
        due("13 odd ones and even ones", x.week(), 12);
        due("13 pairs alone", Scene.rings(x), "(1 2)(3 4)(5 6)(7 8)(9 10)(11 12)");
        due("13 who is left", x.waited(13), 1);
        due("13 who waited is served", x.week(), 12);
        due("13 who waited is served", Scene.rings(x), "(1 2)(3 4)(5 6)(7 8)(9 10)(12 13)");
    }

    private static void promise13Longest() {
        TongueSwap x = Scene.learners(1, 1);
        for (int i = 0; i < 25; i++) {
            x.week();
        }
        due("13 at most 20", Scene.waits(x), "20 20");
        due("13 DAY", x.count(1), 175);
        due("13 weeks", x.count(2), 25);
    }

    private static void promise14() {
        TongueSwap x = Scene.masters(4);
        x.want(0, 1);
        x.want(1, 0);
        x.want(2, 3);
        x.want(3, 2);
        due("14 none yet", x.rings(), 0);
        x.week();
        due("14 two", x.rings(), 2);
        x.unwant(3);
        due("14 still two", x.rings(), 2);
        x.week();
        due("14 one", x.rings(), 1);
        x.unwant(0);
        x.week();
        due("14 none", x.rings(), 0);
    }

    private static void promise15() {
        TongueSwap x = Scene.masters(5);
        x.want(0, 4);
        x.want(4, 0);
        x.want(2, 1);
        x.want(3, 2);
        x.want(1, 3);
        x.hours(4, 32);
        check.noSuch("15 before a week", () -> x.ringOf(0, 0));
        x.week();
        x.hours(4, 64);
        int[][] rows = {{0, 4, NONE, 5, NONE, NONE}, {1, 2, 3, 0, 1, 2}};
        for (int k = 0; k < 2; k++) {
            for (int what = 0; what < 6; what++) {
                due("15 ringOf(" + k + ", " + what + ")", x.ringOf(k, what), rows[k][what]);
            }
        }
        check.noSuch("15 ring", () -> x.ringOf(2, 0));
        check.noSuch("15 ring", () -> x.ringOf(-1, 0));
        check.noSuch("15 ring", () -> x.ringOf(MAX, 0));
        check.noSuch("15 what", () -> x.ringOf(0, 6));
        check.noSuch("15 what", () -> x.ringOf(0, -1));
    }

    private static void promise16() {
        TongueSwap x = Scene.masters(6);
        x.want(0, 1);
        x.want(1, 0);
        x.want(3, 2);
        x.want(4, 3);
        x.want(2, 4);
        due("16 before a week", x.missed(0), false);
        x.week();
        due("16 missed", x.missed(3), true);
        due("16 both others", Scene.waits(x), "0 0 3 0 3 1");
        due("16 of two", x.missed(1), true);
        due("16 the other", Scene.waits(x), "3 0 3 0 3 1");
        due("16 of two", x.missed(0), true);
        due("16 the other, who missed it too", Scene.waits(x), "3 3 3 0 3 1");
        due("16 once", x.missed(3), false);
        due("16 another of the three", x.missed(2), true);
        due("16 six", Scene.waits(x), "3 3 3 3 6 1");
        due("16 not to meet", x.missed(5), false);
        x.learner(1);
        due("16 came later", x.missed(6), false);
        x.week();
        due("16 again in another week", x.missed(3), true);
        due("16 waits", Scene.waits(x), "0 0 3 0 3 2 1");
        x.unwant(0);
        x.week();
        due("16 not this week", x.missed(0), false);
        check.noSuch("16 learner", () -> x.missed(7));
        check.noSuch("16 learner", () -> x.missed(-1));
    }

    private static void promise17() {
        TongueSwap x = Scene.masters(3);
        due("17 at first", x.waited(0), 0);
        x.week();
        x.week();
        due("17 two", x.waited(0), 2);
        x.want(0, 1);
        x.want(1, 0);
        x.week();
        due("17 met", Scene.waits(x), "0 0 3");
        check.noSuch("17 learner", () -> x.waited(3));
        check.noSuch("17 learner", () -> x.waited(-1));
    }

    private static void promise18() {
        TongueSwap x = new TongueSwap();
        due("18 none", x.days(0), 0);
        due("18 most", x.days(1000), 1000);
        due("18 one", x.days(1), 1001);
        check.illegal("18 more", () -> x.days(1001));
        check.illegal("18 less", () -> x.days(-1));
        due("18 DAY", x.count(1), 1001);
    }

    private static void promise19() {
        TongueSwap x = Scene.learners(0, 0);
        x.days(9);
        for (int i = 0; i < 40; i++) {
            due("19 number", x.word(0), i);
        }
        due("19 there are 40", x.word(0), NONE);
        due("19 of another", x.word(1), 0);
        due("19 box", x.wordOf(0, 39, 0), 0);
        due("19 due", x.wordOf(0, 39, 1), 9);
        check.noSuch("19 learner", () -> x.word(2));
    }

    private static void promise20() {
        TongueSwap x = Scene.learners(0);
        x.word(0);
        int[] boxes = {1, 2, 3, 4, 5, 5};
        int[] spans = {2, 4, 8, 16, 32, 32};
        int day = 0;
        for (int i = 0; i < 6; i++) {
            due("20 asked", x.asked(0, 0, true), true);
            due("20 box", x.wordOf(0, 0, 0), boxes[i]);
            due("20 due", x.wordOf(0, 0, 1), day + spans[i]);
            day = x.days(spans[i] - 1);
            due("20 a day early", x.asked(0, 0, false), false);
            due("20 unchanged", x.wordOf(0, 0, 0), boxes[i]);
            day = x.days(1);
        }
        day = x.days(100);
        due("20 late and wrong", x.asked(0, 0, false), true);
        due("20 box 0", x.wordOf(0, 0, 0), 0);
        due("20 in a day", x.wordOf(0, 0, 1), day + 1);
        check.noSuch("20 word", () -> x.asked(0, 1, true));
        check.noSuch("20 word", () -> x.asked(0, -1, true));
        check.noSuch("20 learner", () -> x.asked(1, 0, true));
    }

    private static void promise21() {
        TongueSwap x = Scene.learners(0);
        check.noSuch("21 no word yet", () -> x.wordOf(0, 0, 0));
        x.days(3);
        x.word(0);
        due("21 box", x.wordOf(0, 0, 0), 0);
        due("21 due", x.wordOf(0, 0, 1), 3);
        check.noSuch("21 what", () -> x.wordOf(0, 0, 2));
        check.noSuch("21 what", () -> x.wordOf(0, 0, -1));
        check.noSuch("21 word", () -> x.wordOf(0, 1, 0));
        check.noSuch("21 word", () -> x.wordOf(0, -1, 0));
        check.noSuch("21 learner", () -> x.wordOf(1, 0, 0));
    }

    private static void promise22() {
        TongueSwap x = Scene.learners(0);
        due("22 no words", x.next(0), NONE);
        for (int i = 0; i < 4; i++) {
            x.word(0);
        }
        due("22 the least", x.next(0), 0);
        x.asked(0, 0, true);
        x.asked(0, 1, false);
        x.asked(0, 2, false);
        x.asked(0, 3, true);
        due("22 none due", x.next(0), NONE);
        x.days(1);
        due("22 due first, the least", x.next(0), 1);
        x.days(1);
        due("22 due first", x.next(0), 1);
        x.asked(0, 1, true);
        x.asked(0, 2, true);
        due("22 due then", x.next(0), 0);
        x.asked(0, 0, true);
        due("22 due last", x.next(0), 3);
        check.noSuch("22 learner", () -> x.next(1));
    }

    private static void promise23() {
        TongueSwap x = new TongueSwap();
        for (int i = 1; i <= 4; i++) {
            due("23 bytes", x.feed(0x01020304, 0, 0, 0, 0), 20 * i);
        }
        due("23 no more than 80", x.feed(1, 2, 3, 4, 5), NONE);
        due("23 none came", x.count(4), 80);
        TongueSwap y = new TongueSwap();
        y.feed(0x80FF0102, 0x03040506, 0x0708090A, 0x0B80FF01, 0x02030405);
        // 80FF0102030405060708 becomes 090A0B80FF0102030405.
        due("23 the highest first", y.correct(10, 10), 12);
        due("23 marks", Scene.marks(y), "3330000000222");
        TongueSwap z = new TongueSwap();
        z.feed(0x01020304, 0, 0, 0, 0);
        z.feed(0x05060708, 0, 0, 0, 0x01020304);
        due("23 behind the tape", z.correct(20, 20), 3 * 4 + 3 * 4);
    }

    private static void promise24() {
        TongueSwap x = new TongueSwap();
        due("24 nothing", x.correct(0, 0), 0);
        due("24 alike", Scene.corrected(x, "hello", "hello"), 0);
        due("24 another", Scene.corrected(x, "cat", "cut"), 3);
        due("24 goes", Scene.corrected(x, "cart", "cat"), 2);
        due("24 comes", Scene.corrected(x, "cat", "cart"), 2);
        due("24 places", Scene.corrected(x, "teh", "the"), 2);
        due("24 two others", Scene.corrected(x, "ab", "xy"), 6);
        due("24 all go", Scene.corrected(x, "abcd", ""), 8);
        due("24 a change of places has nothing between", Scene.corrected(x, "ab", "bxa"), 6);
        due("24 empty then", x.count(4), 0);
        Scene.feedText(x, "abcdefghijklmnopqrst");
        check.illegal("24 more than there are", () -> x.correct(10, 11));
        check.illegal("24 more than there are", () -> x.correct(21, 0));
        check.illegal("24 below", () -> x.correct(-1, 5));
        check.illegal("24 below", () -> x.correct(5, -1));
        check.illegal("24 far", () -> x.correct(MAX, MAX));
        check.illegal("24 far", () -> x.correct(MIN, MIN));
        due("24 nothing changed", x.count(4), 20);
        due("24 the latest stays", x.marks(0) * 10 + x.mark(NONE), 14);
        due("24 all of it", x.correct(10, 10), 40 - 10);
        Scene.feedText(x, "aaaaaaaaaaaaaaaaaaaaaaaaaaaaaaaaaaaaaaaaaaaaaaaaaaaaaaaaaaaaaaaaaaaaaaaaaaaaaaaa");
        check.illegal("24 above 40", () -> x.correct(41, 0));
        check.illegal("24 above 40", () -> x.correct(0, 41));
        due("24 the longest", x.correct(40, 40), 0);
    }

    private static void promise25() {
        TongueSwap x = new TongueSwap();
        check.noSuch("25 before one", () -> x.mark(0));
        Scene.corrected(x, "abxy", "bay");
        due("25 marks", Scene.marks(x), "420");
        due("25 how many", x.mark(NONE), 3);
        check.noSuch("25 none", () -> x.mark(3));
        check.noSuch("25 none", () -> x.mark(-2));
        check.noSuch("25 none", () -> x.mark(MAX));
        Scene.corrected(x, "aab", "ab");
        due("25 the first row", Scene.marks(x), "020");
        Scene.corrected(x, "ab", "ba");
        due("25 places", Scene.marks(x), "4");
        Scene.corrected(x, "ab", "cb");
        due("25 becomes", Scene.marks(x), "10");
        Scene.corrected(x, "a", "bc");
        due("25 becomes ahead of comes", Scene.marks(x), "13");
        Scene.corrected(x, "ab", "ca");
        due("25 comes and goes for less than two others", Scene.marks(x), "302");
        Scene.corrected(x, "aa", "aa");
        due("25 alike ones stay", Scene.marks(x), "00");
        Scene.corrected(x, "", "");
        due("25 no marks", x.mark(NONE), 0);
    }

    private static void promise26() {
        TongueSwap x = new TongueSwap();
        for (int kind = 0; kind < 5; kind++) {
            due("26 before one", x.marks(kind), 0);
        }
        Scene.corrected(x, "hfello wrodlz", "hello, world");
        due("26 marks", Scene.marks(x), "020000300442");
        int[] counts = {7, 0, 2, 1, 2};
        for (int kind = 0; kind < 5; kind++) {
            due("26 of kind " + kind, x.marks(kind), counts[kind]);
        }
        check.noSuch("26 kind", () -> x.marks(5));
        check.noSuch("26 kind", () -> x.marks(-1));
    }

    private static void promise27() {
        TongueSwap x = Scene.masters(4);
        x.want(0, 1);
        x.want(1, 0);
        x.week();
        x.week();
        x.days(5);
        x.feed(0, 0, 0, 0, 0);
        int[] counts = {4, 19, 2, 4, 20};
        for (int what = 0; what < 5; what++) {
            due("27 count(" + what + ")", x.count(what), counts[what]);
        }
        check.noSuch("27 what", () -> x.count(5));
        check.noSuch("27 what", () -> x.count(-1));
    }
}
