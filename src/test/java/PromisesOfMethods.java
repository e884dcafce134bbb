/** Promises 1 (a new object), 2 (unit), 3 (read) and 4 (uses), sentence by sentence. */
final class PromisesOfMethods {
    private static final int[] FAR = {-1, Integer.MIN_VALUE, Integer.MAX_VALUE};

    private PromisesOfMethods() {}

    static void ask(Checks checks) {
        checks.section("What it is");
        checks.test(PromisesOfMethods::fiveHundredAndTwelveCalls);
        checks.section("Promise 1: A new object");
        checks.test(PromisesOfMethods::nothing);
        checks.section("Promise 2: unit");
        checks.test(PromisesOfMethods::aSignBehindThePad);
        checks.test(PromisesOfMethods::thereAreFifty);
        checks.test(PromisesOfMethods::itIsNoSign);
        checks.section("Promise 3: read");
        checks.test(PromisesOfMethods::thePadBecomesAMethod);
        checks.test(PromisesOfMethods::theFirstWrongSign);
        checks.test(PromisesOfMethods::onlyTheEndIsWrong);
        checks.test(PromisesOfMethods::thePadIsEmptyToo);
        checks.test(PromisesOfMethods::thereAreTwelve);
        checks.section("Promise 4: uses");
        checks.test(PromisesOfMethods::usesInAll);
        checks.test(PromisesOfMethods::usesOfNoSuch);
    }

    private static void fiveHundredAndTwelveCalls(Checks checks) {
        checks.sentence("An object is used for at most 512 calls after it has been made");
        MaterialBars x = new MaterialBars();
        for (int k = 0; k < 510; k++) {
            checks.due("call " + (k + 1), x.stock(0, k % 2 == 0 ? 1000000 : -1000000), k % 2 == 0 ? 1000000 : 0);
        }
        checks.due("the 511th call", x.about(0, 1), 255000000L);
        checks.due("the 512th call", x.about(0, 2), 255000000L);
    }

    private static void nothing(Checks checks) {
        checks.sentence("Nothing.");
        MaterialBars x = new MaterialBars();
        for (int what = 0; what < 5; what++) {
            checks.due("count(" + what + ")", x.count(what), 0);
        }
        for (int good = 0; good < 12; good++) {
            checks.due("what there is of " + good, x.about(good, 0), 0);
            checks.due("what came of " + good, x.about(good, 1), 0);
            checks.due("what went of " + good, x.about(good, 2), 0);
            checks.due("the shelf of " + good, x.about(good, 3), MaterialBars.NONE);
            checks.due("all may lie on one shelf", x.put(good, 0), 0);
        }
        checks.refused("no method", Checks.INDEX, MaterialBars::new, y -> y.uses(0, 0));
        checks.refused("no object", Checks.INDEX, MaterialBars::new, y -> y.row(0, -1, 0));
        checks.refused("no plan", Checks.INDEX, MaterialBars::new, y -> y.step(0));
        checks.due("behind all that another object was told", shownBesideAnother(),
                Later.shows(MaterialBars::new).toString());
    }

    private static String shownBesideAnother() {
        return Later.shows(() -> {
            Samples.busy();
            return new MaterialBars();
        }).toString();
    }

    private static void aSignBehindThePad(Checks checks) {
        checks.sentence("A sign behind the pad: how many it has.");
        MaterialBars x = new MaterialBars();
        for (int k = 1; k <= 50; k++) {
            checks.due("the sign " + (32 + k), x.unit(32 + k), k);
        }
        checks.due("they stand as they came", Samples.made("", "u1*23").uses(0, 1), 23);
    }

    private static void thereAreFifty(Checks checks) {
        checks.sentence("IllegalStateException: there are 50.");
        checks.due("the 49th", Samples.withSigns(48).unit('t'), 49);
        checks.due("the 50th", Samples.withSigns(49).unit('t'), 50);
        for (int sign : new int[] {'t', '1', 33, 126, 32, 127, -1}) {
            checks.refused("unit(" + sign + ") on 50", Checks.STATE, () -> Samples.withSigns(50), x -> x.unit(sign));
        }
        MaterialBars good = Samples.withSigns(50);
        checks.due("50 signs are read", good.read(), 0);
        checks.due("then there is room again", good.unit('t'), 1);
        MaterialBars bad = Samples.withSigns(49);
        bad.unit('?');
        checks.due("so if they are wrong", bad.read(), -50);
        checks.due("then there is room, too", bad.unit('t'), 1);
    }

    private static void itIsNoSign(Checks checks) {
        checks.sentence("IllegalArgumentException: it is none.");
        checks.due("unit(33)", new MaterialBars().unit(33), 1);
        checks.due("unit(126)", new MaterialBars().unit(126), 1);
        for (int sign : new int[] {32, 127, 0, -1, 33 + 256, 33 + 65536, Integer.MIN_VALUE, Integer.MAX_VALUE}) {
            checks.refused("unit(" + sign + ")", Checks.ARGUMENT, Samples::busy, x -> x.unit(sign));
            checks.refused("unit(" + sign + ") on 49", Checks.ARGUMENT, () -> Samples.withSigns(49), x -> x.unit(sign));
        }
    }

    private static void thePadBecomesAMethod(Checks checks) {
        checks.sentence("The pad becomes a method, and is empty: its number");
        MaterialBars x = new MaterialBars();
        for (int k = 0; k < 12; k++) {
            Samples.write(x, "u0*" + (k + 1));
            checks.due("read()", x.read(), k);
            checks.due("methods", x.count(1), k + 1);
            checks.due("signs", x.count(0), 0);
            checks.due("what it uses", x.uses(k, 0), k + 1);
        }
        checks.due("an empty pad", new MaterialBars().read(), 0);
        MaterialBars full = Samples.withSigns(50);
        checks.due("a full one", full.read(), 0);
        checks.due("which is empty then", full.count(0), 0);
        checks.due("and read to its end", full.uses(0, 2), 1);
        checks.due("empty: the next text begins anew", Samples.tell(full, "u3*4"), 1);
        checks.due("and has nothing of the former", full.uses(1, 1), 0);
    }

    private static void theFirstWrongSign(Checks checks) {
        checks.sentence("-1 minus the place of the first sign that no method's text could have there behind those ahead"
                + " of it");
        wrongAt(checks, 0, "?", ",", "0", "*", "T", "?,?", "!t", "~");
        wrongAt(checks, 1, "t?", "tt", "u?1*1", "b,", "a:", "x-1", "i1");
        wrongAt(checks, 2, "b10", "u12*1", "x12", "a12:1", "u1,", "t,,", "a1*1");
        wrongAt(checks, 4, "u1*0,", "u1*0,?", "a1:1:", "b0010");
        wrongAt(checks, 6, "u1*0000", "u1*0000,t");
        wrongAt(checks, 19, "t,t,t,t,t,t,t,t,t,t,t");
        String most = "u0011*9999,u0011*9999,u0011*9999,u0011*9999,u11*9";
        wrongAt(checks, 49, most + "?", most + "*", most + "u");
        wrongAt(checks, 48, most.substring(0, 48) + "??");
        wrongAt(checks, 0, "?" + most);
    }

    private static void onlyTheEndIsWrong(Checks checks) {
        checks.sentence("(the pad's length, if only its end is wrong)");
        wrongAt(checks, 1, "u", "b", "x", "a");
        wrongAt(checks, 2, "u1", "a1", "t,", "i,");
        wrongAt(checks, 3, "u1*", "a1:", "b1,", "t,b");
        wrongAt(checks, 4, "u1*0");
        wrongAt(checks, 6, "u1*000");
        wrongAt(checks, 18, "t,t,t,t,t,t,t,t,t,");
        String most = "u0011*9999,u0011*9999,u0011*9999,u0011*9999,";
        wrongAt(checks, 49, most + "u11*0", most + "b009,");
        wrongAt(checks, 50, most + "u11*00", most + "u11*9,", most + "b0009,", most + "t,t,t,", most + "b9,t,x");
    }

    private static void wrongAt(Checks checks, int place, String... texts) {
        for (String text : texts) {
            MaterialBars x = new MaterialBars();
            checks.due("read " + text, Samples.tell(x, text), -1 - place);
            checks.due("methods behind " + text, x.count(1), 0);
        }
    }

    /** A text that is wrong leaves what an empty pad at its place would leave: nothing. */
    private static void thePadIsEmptyToo(Checks checks) {
        checks.sentence("and the pad is empty, too");
        String[] wrong = {"?", "u", "u1*5,u0*1,u11*1,b1,x0,a0:9,a1:7,t,i,", "a9:9,a10:9,a11:9,x11,?",
            "t,t,t,t,t,t,t,t,t,t,t"};
        for (String text : wrong) {
            checks.due("signs behind " + text, spoilt(text).count(0), 0);
            checks.due("a sign behind " + text, spoilt(text).unit('t'), 1);
            checks.due("later calls behind " + text, Later.shows(() -> spoilt(text)).toString(),
                    Later.shows(() -> Samples.made("1", "u1*2", "")).toString());
            checks.due("a next method behind " + text, Later.shows(() -> next(spoilt(text))).toString(),
                    Later.shows(() -> next(Samples.made("1", "u1*2", ""))).toString());
        }
    }

    private static MaterialBars spoilt(String text) {
        MaterialBars x = Samples.made("1", "u1*2", "");
        Samples.tell(x, text);
        return x;
    }

    /** The next method comes after both others, which are done, so that all that it asks shows. */
    private static MaterialBars next(MaterialBars x) {
        Samples.tell(x, "u2*3,a0:0,a1:0");
        for (int method = 0; method < 3; method++) {
            x.right(0, method, true);
        }
        x.stock(1, 2);
        x.stock(2, 3);
        x.done(0, 0, 0, 0, 0);
        x.done(0, 1, 0, 0, 0);
        return x;
    }

    private static void thereAreTwelve(Checks checks) {
        checks.sentence("IllegalStateException: there are twelve.");
        MaterialBars x = Samples.made("", "", "", "", "", "", "", "", "", "", "", "");
        checks.due("a wrong text on eleven", Samples.tell(x, "t,"), -3);
        checks.due("the twelfth", Samples.tell(x, "t"), 11);
        for (String text : new String[] {"", "t", "?", "t,", "u1*1,b2"}) {
            checks.refused("a thirteenth: " + text, Checks.STATE, () -> twelveAnd(text), MaterialBars::read);
            MaterialBars full = twelveAnd(text);
            Checks.answerOf(MaterialBars::read, full);
            checks.due("the pad is kept: " + text, full.count(0), text.length());
        }
    }

    private static MaterialBars twelveAnd(String text) {
        MaterialBars x = Samples.twelve();
        Samples.write(x, text);
        return x;
    }

    private static void usesInAll(Checks checks) {
        checks.sentence("How much of a good a method uses in all.");
        MaterialBars x = Samples.made("", "u1*20,u1*5,u11*9999,u0*1,u01*0100", "", "u1*3");
        checks.due("uses(0, 0)", x.uses(0, 0), 1);
        checks.due("uses(0, 1)", x.uses(0, 1), 125);
        checks.due("uses(0, 2)", x.uses(0, 2), 0);
        checks.due("uses(0, 11)", x.uses(0, 11), 9999);
        checks.due("uses(1, 1)", x.uses(1, 1), 0);
        checks.due("uses(2, 1)", x.uses(2, 1), 3);
        String seven = "u1*9999,u1*9999,u1*9999,u1*9999,u1*9999,u1*9999,b1";
        checks.due("the most that a pad can tell", Samples.made("", seven).uses(0, 1), 6 * 9999);
    }

    private static void usesOfNoSuch(Checks checks) {
        checks.sentence("IndexOutOfBoundsException.");
        checks.due("the last method and good", Samples.busy().uses(3, 11), 2);
        checks.due("the first method and good", Samples.busy().uses(0, 0), 0);
        checks.refused("the first method that is not there", Checks.INDEX, Samples::busy, x -> x.uses(4, 0));
        checks.refused("the first good that is not there", Checks.INDEX, Samples::busy, x -> x.uses(0, 12));
        checks.due("the twelfth method", Samples.twelve().uses(11, 11), 0);
        checks.refused("the thirteenth", Checks.INDEX, Samples::twelve, x -> x.uses(12, 0));
        checks.refused("no method at all", Checks.INDEX, MaterialBars::new, x -> x.uses(0, 0));
        for (int far : FAR) {
            checks.refused("method " + far, Checks.INDEX, Samples::busy, x -> x.uses(far, 0));
            checks.refused("good " + far, Checks.INDEX, Samples::busy, x -> x.uses(0, far));
        }
    }
}
