/** What the terms say of the pad and of a method's text. */
final class TermsOfTexts {
    private TermsOfTexts() {}

    static void ask(Checks checks) {
        checks.section("Terms");
        checks.test(TermsOfTexts::thePad);
        checks.test(TermsOfTexts::commas);
        checks.test(TermsOfTexts::anEmptyText);
        checks.test(TermsOfTexts::tenClauses);
        checks.test(TermsOfTexts::usesClause);
        checks.test(TermsOfTexts::barsClause);
        checks.test(TermsOfTexts::notBehindClause);
        checks.test(TermsOfTexts::afterClause);
        checks.test(TermsOfTexts::trialClause);
        checks.test(TermsOfTexts::twoPersonsClause);
        checks.test(TermsOfTexts::digits);
        checks.test(TermsOfTexts::goodsAndMethods);
        checks.test(TermsOfTexts::materials);
        checks.test(TermsOfTexts::amounts);
        checks.test(TermsOfTexts::hours);
        checks.test(TermsOfTexts::methodsAreNumbered);
        checks.test(TermsOfTexts::namedButNotThere);
    }

    private static void wrongAt(Checks checks, int place, String... texts) {
        for (String text : texts) {
            checks.due("read " + text, Samples.read(text), -1 - place);
        }
    }

    private static void taken(Checks checks, String... texts) {
        for (String text : texts) {
            checks.due("read " + text, Samples.read(text), 0);
        }
    }

    private static void thePad(Checks checks) {
        checks.sentence("THE PAD is a row of at most 50 SIGNS (33 .. 126).");
        for (int k = 33; k <= 126; k++) {
            checks.due("the sign " + k, new MaterialBars().unit(k), 1);
        }
        checks.refused("the sign 32", Checks.ARGUMENT, MaterialBars::new, x -> x.unit(32));
        checks.refused("the sign 127", Checks.ARGUMENT, MaterialBars::new, x -> x.unit(127));
        checks.due("the 50th sign", Samples.withSigns(49).unit(33), 50);
        checks.refused("a 51st", Checks.STATE, () -> Samples.withSigns(50), x -> x.unit(33));
    }

    private static void commas(Checks checks) {
        checks.sentence("A METHOD'S TEXT has CLAUSES with \",\" between them");
        taken(checks, "t", "t,i", "b1,t", "t,b1", "u1*1,u1*1", "x1,a1:1,b1");
        wrongAt(checks, 0, ",", ",t", ",,");
        wrongAt(checks, 1, "ti", "tt", "i;t", "t*");
        wrongAt(checks, 2, "t,", "t,,", "t,,i", "b1t", "x1:t");
    }

    private static void anEmptyText(Checks checks) {
        checks.sentence("(none: an empty text)");
        checks.due("read on an empty pad", new MaterialBars().read(), 0);
        MaterialBars x = Samples.made("0123456789".substring(0, 8), "");
        for (int good = 0; good < 12; good++) {
            checks.due("what it uses", x.uses(0, good), 0);
        }
        x.right(0, 0, true);
        checks.due("it bars and needs nothing", x.done(0, 0, 0, 0, 0), 0);
        checks.due("nor ahead of it", x.done(0, 0, 0, 0, 0), 0);
    }

    private static void tenClauses(Checks checks) {
        checks.sentence("at most ten; each one of");
        taken(checks, "t,t,t,t,t,t,t,t,t", "t,t,t,t,t,t,t,t,t,t", "b0,b1,b2,b3,b4,b5,b6,b7,b8,b9");
        taken(checks, "i,i,i,i,i,i,i,i,u1*1,b1", "i,i,i,i,i,i,i,i,x1,a1:1");
        wrongAt(checks, 19, "t,t,t,t,t,t,t,t,t,t,t", "t,t,t,t,t,t,t,t,t,t,", "t,t,t,t,t,t,t,t,t,t,?");
        wrongAt(checks, 29, "b0,b1,b2,b3,b4,b5,b6,b7,b8,b9,t");
        wrongAt(checks, 23, "i,i,i,i,i,i,i,i,u1*1,b1,", "i,i,i,i,i,i,i,i,x1,a1:1,");
        wrongAt(checks, 18, "t,t,t,t,t,t,t,t,t,", "t,t,t,t,t,t,t,t,t,,");
        for (char sign = 33; sign <= 126; sign++) {
            if ("ubxati".indexOf(sign) < 0) {
                wrongAt(checks, 0, String.valueOf(sign), sign + "1", sign + ",t");
                wrongAt(checks, 2, "t," + sign);
            }
        }
    }

    private static void usesClause(Checks checks) {
        checks.sentence("\"u\", a good, \"*\", an amount: it USES so much of it;");
        taken(checks, "u1*1", "u11*12");
        wrongAt(checks, 1, "u", "u*1", "u,", "u,t", "ut");
        wrongAt(checks, 2, "u1", "u1,", "u1:1", "u1t", "u1,t");
        wrongAt(checks, 3, "u1*", "u1*,t", "u1**1", "u1*t");
        wrongAt(checks, 4, "u1*1*1", "u1*1:1", "u1*1t");
        MaterialBars x = Samples.allowed("", "u3*7");
        checks.due("what it uses", x.uses(0, 3), 7);
        x.stock(3, 20);
        x.done(0, 0, 0, 0, 0);
        checks.due("what is left behind a step", x.about(3, 0), 13);
    }

    private static void barsClause(Checks checks) {
        checks.sentence("\"b\", a material: it BARS parts of that;");
        taken(checks, "b1", "b1,b1");
        wrongAt(checks, 1, "b", "b,", "b*", "bt", "b,1");
        wrongAt(checks, 2, "b1*1", "b1:", "b1b2");
        MaterialBars x = Samples.allowed("4", "b4", "b5", "b3");
        checks.due("a part of it", x.reason(0, 0, 0, 0), 100);
        checks.due("one below", x.reason(0, 1, 0, 0), 0);
        checks.due("one above", x.reason(0, 2, 0, 0), 0);
        x.object();
        checks.due("no part at all", x.reason(1, 0, 0, 0), 0);
    }

    private static void notBehindClause(Checks checks) {
        checks.sentence("\"x\", a method: it may not come behind that one on the same object;");
        taken(checks, "x1", "x0");
        wrongAt(checks, 1, "x", "x,", "x:", "xt", "x-1");
        wrongAt(checks, 2, "x1:1", "x1*1", "x1x");
        MaterialBars x = Samples.allowed("", "", "x0");
        x.object();
        checks.due("ahead of it", x.done(0, 1, 0, 0, 0), 0);
        checks.due("then it", x.done(0, 0, 0, 0, 0), 0);
        checks.due("behind it", x.done(0, 1, 0, 0, 0), 200);
        checks.due("on another object", x.done(1, 1, 0, 0, 0), 0);
    }

    private static void afterClause(Checks checks) {
        checks.sentence("\"a\", a method, \":\", hours: it comes only AFTER that one on the same object,"
                + " at least so many hours behind its latest;");
        taken(checks, "a1:1", "a0:0");
        wrongAt(checks, 1, "a", "a:1", "a,", "at");
        wrongAt(checks, 2, "a1", "a1*1", "a1,t");
        wrongAt(checks, 3, "a1:", "a1:,t", "a1::", "a1:t");
        wrongAt(checks, 4, "a1:1:", "a1:1*", "a1:1t");
        MaterialBars x = Samples.allowed("", "", "a0:5");
        x.object();
        checks.due("not done", x.reason(0, 1, 0, 1000000), 300);
        x.done(0, 0, 0, 0, 10);
        checks.due("done on another object", x.reason(1, 1, 0, 1000000), 300);
        checks.due("four hours behind", x.reason(0, 1, 0, 14), 300);
        checks.due("five hours behind", x.reason(0, 1, 0, 15), 0);
        x.done(0, 0, 0, 0, 12);
        checks.due("four hours behind the latest", x.reason(0, 1, 0, 16), 300);
        checks.due("five hours behind the latest", x.reason(0, 1, 0, 17), 0);
        MaterialBars y = Samples.allowed("", "", "a0:3,a0:7,a0:2");
        y.done(0, 0, 0, 0, 0);
        checks.due("each of three clauses has to hold: six hours", y.reason(0, 1, 0, 6), 300);
        checks.due("seven", y.reason(0, 1, 0, 7), 0);
    }

    private static void trialClause(Checks checks) {
        checks.sentence("\"t\": for the material of each part a TRIAL that was good;");
        wrongAt(checks, 1, "t1", "t:", "t*", "tt");
        MaterialBars x = Samples.allowed("50", "t");
        checks.due("none", x.reason(0, 0, 0, 0), 400);
        x.trial(0, 0, true);
        checks.due("one of two", x.reason(0, 0, 0, 0), 405);
        x.trial(0, 5, true);
        checks.due("both", x.reason(0, 0, 0, 0), 0);
        x.trial(0, 0, false);
        checks.due("one that is not good any more", x.reason(0, 0, 0, 0), 400);
        x.object();
        checks.due("no part, no trial", x.reason(1, 0, 0, 0), 0);
    }

    private static void twoPersonsClause(Checks checks) {
        checks.sentence("\"i\": it can't be undone: TWO persons.");
        wrongAt(checks, 1, "i1", "i:", "i*", "ii");
        MaterialBars x = Samples.allowed("", "i");
        checks.due("one person", x.done(0, 0, 0, 0, 0), 700);
        checks.due("two", x.done(0, 0, 0, 1, 0), 0);
    }

    private static void digits(Checks checks) {
        checks.sentence("Numbers have one to four digits");
        taken(checks, "b1", "b01", "b001", "b0001", "x0011", "a0011:0000", "u0011*0001", "u1*9999", "a1:9999");
        wrongAt(checks, 1, "b", "x", "a", "u");
        wrongAt(checks, 3, "u1*", "a1:");
        wrongAt(checks, 5, "b00001", "b00000", "x00001", "x00000", "a00001:1", "u00001*1");
        wrongAt(checks, 7, "u1*00010", "u1*12345", "u1*10000", "a1:00000", "a1:00001", "a1:10000");
        MaterialBars x = Samples.allowed("7", "u0002*0030", "b0007", "a0000:0004", "x0000");
        checks.due("0030 of 0002", x.uses(0, 2), 30);
        checks.due("0007", x.reason(0, 1, 0, 0), 100);
        x.stock(2, 30);
        x.done(0, 0, 0, 0, 0);
        checks.due("0000:0004, three hours", x.reason(0, 2, 0, 3), 300);
        checks.due("0000:0004, four hours", x.reason(0, 2, 0, 4), 0);
        checks.due("0000", x.reason(0, 3, 0, 0), 200);
    }

    private static void goodsAndMethods(Checks checks) {
        checks.sentence("goods, methods 0 .. 11");
        for (int k = 0; k <= 11; k++) {
            taken(checks, "u" + k + "*1", "x" + k, "a" + k + ":1");
            MaterialBars x = Samples.made("", "u" + k + "*5", "a" + k + ":0");
            checks.due("the good " + k, x.uses(0, k), 5);
            checks.due("the method " + k, x.reason(0, 1, 0, 0), 300 + k);
        }
        wrongAt(checks, 2, "u12*1", "u19*1", "u20*1", "u99*1", "x12", "x20", "x99", "a12:1", "a20:1", "a99:1");
        wrongAt(checks, 3, "u110*1", "u111*1", "u012*1", "x110", "x012", "a110:1", "a012:1");
        wrongAt(checks, 4, "u0012*1", "u0110*1", "x0012", "x0110", "a0012:1", "a0110:1");
    }

    private static void materials(Checks checks) {
        checks.sentence("materials 0 .. 9");
        for (int k = 0; k <= 9; k++) {
            taken(checks, "b" + k);
            checks.due("the material " + k, Samples.made(String.valueOf(k), "b" + k).reason(0, 0, 0, 0), 100);
        }
        wrongAt(checks, 2, "b10", "b11", "b90", "b99");
        wrongAt(checks, 3, "b010", "b099");
        wrongAt(checks, 4, "b0010", "b0090");
    }

    private static void amounts(Checks checks) {
        checks.sentence("amounts 1 .. 9999");
        checks.due("the lowest", Samples.made("", "u0*1").uses(0, 0), 1);
        checks.due("the highest", Samples.made("", "u0*9999").uses(0, 0), 9999);
        checks.due("0001", Samples.made("", "u0*0001").uses(0, 0), 1);
        wrongAt(checks, 4, "u0*0", "u0*0,t", "u0*0*");
        wrongAt(checks, 5, "u0*00", "u0*00,t");
        wrongAt(checks, 6, "u0*000", "u0*0000", "u0*000,t", "u0*0000,t");
        wrongAt(checks, 7, "u0*10000", "u0*99990");
    }

    private static void hours(Checks checks) {
        checks.sentence("hours 0 .. 9999");
        MaterialBars x = Samples.allowed("", "", "a0:0", "a0:9999");
        x.done(0, 0, 0, 0, 20);
        checks.due("0 hours, an hour ahead", x.reason(0, 1, 0, 19), 300);
        checks.due("0 hours, the same hour", x.reason(0, 1, 0, 20), 0);
        checks.due("9999 hours, one less", x.reason(0, 2, 0, 20 + 9998), 300);
        checks.due("9999 hours", x.reason(0, 2, 0, 20 + 9999), 0);
        wrongAt(checks, 7, "a0:10000", "a0:99990");
    }

    private static void methodsAreNumbered(Checks checks) {
        checks.sentence("Methods 0 .. 11 are numbered as they are read");
        MaterialBars x = new MaterialBars();
        for (int k = 0; k < 12; k++) {
            checks.due("a wrong text has no number", Samples.tell(x, "u1*0"), -5);
            checks.due("the next method", Samples.tell(x, "u1*" + (k + 1)), k);
        }
        for (int k = 0; k < 12; k++) {
            checks.due("what method " + k + " uses", x.uses(k, 1), k + 1);
        }
    }

    private static void namedButNotThere(Checks checks) {
        checks.sentence("one may be named that is not there yet.");
        MaterialBars x = Samples.allowed("", "x2", "a2:0", "x11,x1", "a11:0");
        checks.due("behind one that comes later", x.reason(0, 0, 0, 0), 0);
        checks.due("after one that comes later", x.reason(0, 1, 0, 0), 302);
        checks.due("after the twelfth", x.reason(0, 3, 0, 0), 311);
        x.done(0, 2, 0, 0, 0);
        checks.due("behind it, now that it is done", x.reason(0, 0, 0, 0), 202);
        checks.due("after it, now that it is done", x.reason(0, 1, 0, 0), 0);
    }
}
