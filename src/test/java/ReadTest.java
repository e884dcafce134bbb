/** Promises 2 (unit), 3 (read) and 4 (uses). */
public final class ReadTest {
    private static final Checks CHECKS = new Checks("ReadTest");

    public static void main(String[] args) {
        unitTakesSigns();
        unitRefuses();
        readTakesTexts();
        readTellsTheFirstWrongSign();
        readEmptiesThePad();
        aFailedTextLeavesNothingBehind();
        readRefusesAThirteenth();
        usesAddsUp();
        usesRefuses();
        CHECKS.end();
    }

    private static void unitTakesSigns() {
        MaterialBars x = new MaterialBars();
        CHECKS.due("unit(33)", x.unit(33), 1);
        CHECKS.due("unit(126)", x.unit(126), 2);
        for (int k = 3; k <= 50; k++) {
            CHECKS.due("unit(65), the " + k + "th", x.unit(65), k);
        }
    }

    private static void unitRefuses() {
        MaterialBars x = new MaterialBars();
        for (int sign : new int[] {32, 127, 0, -1, Integer.MIN_VALUE, Integer.MAX_VALUE, 33 + 256}) {
            CHECKS.refused("unit(" + sign + ")", Checks.ARGUMENT, x, () -> x.unit(sign));
        }
        Checks.write(x, "t".repeat(49));
        CHECKS.refused("unit(127) on 49", Checks.ARGUMENT, x, () -> x.unit(127));
        x.unit('t');
        CHECKS.refused("unit('t') on 50", Checks.STATE, x, () -> x.unit('t'));
        CHECKS.refused("unit(127) on 50", Checks.STATE, x, () -> x.unit(127));
    }

    private static void readTakesTexts() {
        String[] good = {
            "", "t", "i", "u0*1", "u11*9999", "u0011*0001", "b0", "b9", "b0009", "x0", "x11", "x0011",
            "a0:0", "a11:9999", "a0000:0000", "t,i,u1*1,b1,x1,a1:1", "t,t,t,t,t,t,t,t,t,t",
            "u0*1,u0*1", "b3,b3", "x5,x5", "a1:5,a1:3", "i,i", "u1*10", "u1*0100", "u10*1", "b5,t",
        };
        for (String text : good) {
            CHECKS.due("read " + text, Checks.tell(new MaterialBars(), text), 0);
        }
        String full = "u0011*9999,u0011*9999,u0011*9999,u0011*9999,u11*99";
        CHECKS.due("a text of 50 signs", full.length(), 50);
        MaterialBars x = new MaterialBars();
        CHECKS.due("read it", Checks.tell(x, full), 0);
        CHECKS.due("what it uses", x.uses(0, 11), 4 * 9999 + 99);
        for (int k = 1; k < 12; k++) {
            CHECKS.due("methods are numbered as read", Checks.tell(x, k % 2 == 0 ? "" : "t"), k);
        }
    }

    private static void readTellsTheFirstWrongSign() {
        wrongAt(0, ",", ",t", "0", "z", "T", "*", ":", "!", "~", "z,z");
        wrongAt(1, "u", "b", "x", "a", "ub", "u,", "b,", "a:", "u*1", "tt", "ti", "t1", "i1", "ut", "b*", "x-1");
        wrongAt(2, "t,", "t,,t", "i,", "u1", "a1", "u1:1", "a1*1", "u12*1", "u99", "b10", "b1*1", "x12", "x20",
                "a12:1", "u2,", "a2,", "b1x", "b9t", "t,1", "t,?");
        wrongAt(3, "u1*", "a1:", "u1*t", "a1:t", "u1*,", "a1:,", "u11", "u012*1", "b010", "x112", "u11:", "b00a");
        wrongAt(4, "u1*0", "u1*0,", "u1*0t", "a1:1:", "b0010", "x0012", "u0012*1", "u001:", "t,b1a");
        wrongAt(5, "b00000", "b00001", "x00011", "u00011*1", "u1*00", "u1*00,t");
        wrongAt(6, "u1*000", "u1*0000", "u1*000,t", "u1*0000,t", "u11*00,", "t,u1*0");
        wrongAt(7, "u1*12345", "u1*00010", "a1:00000", "a1:99999", "u1*9999*", "a1:9999:");
        wrongAt(18, "t,t,t,t,t,t,t,t,t,");
        wrongAt(19, "t,t,t,t,t,t,t,t,t,t,", "t,t,t,t,t,t,t,t,t,t,t", "t,t,t,t,t,t,t,t,t,t,?", "t,t,t,t,t,t,t,t,t,tt");
        String nine = "t,t,t,t,t,t,t,t,t,";
        wrongAt(20, nine + "b1,t", nine + "b1,", nine + "x2,", nine + "b10");
        wrongAt(22, nine + "u1*0,", nine + "u1*5,t");
        String most = "u0011*9999,u0011*9999,u0011*9999,u0011*9999,";
        wrongAt(50, most + "u11*00", most + "u11*9,", most + "a11:1,", most + "b0009,");
        wrongAt(49, most + "u11*9z");
    }

    private static void wrongAt(int place, String... texts) {
        for (String text : texts) {
            MaterialBars x = new MaterialBars();
            CHECKS.due("read " + text, Checks.tell(x, text), -1 - place);
            CHECKS.due("no method by " + text, x.count(1), 0);
            CHECKS.due("the pad is empty behind " + text, x.count(0), 0);
        }
    }

    private static void readEmptiesThePad() {
        MaterialBars x = new MaterialBars();
        CHECKS.due("read t", Checks.tell(x, "t"), 0);
        CHECKS.due("the pad is empty", x.count(0), 0);
        CHECKS.due("unit behind it", x.unit('i'), 1);
        CHECKS.due("read i", x.read(), 1);
        Checks.write(x, "i,i,i,i,i");
        x.read();
        CHECKS.due("what was on the pad is not read again", Checks.tell(x, "i"), 3);
    }

    private static void aFailedTextLeavesNothingBehind() {
        MaterialBars x = new MaterialBars();
        CHECKS.due("a bad text", Checks.tell(x, "u1*5,u0*1,u11*1,b1,x0,a0:9,a1:7,t,i,"), -37);
        CHECKS.due("an empty one", Checks.tell(x, ""), 0);
        for (int good = 0; good < 12; good++) {
            CHECKS.due("uses nothing", x.uses(0, good), 0);
        }
        x.object();
        x.part(0, 1);
        x.right(0, 0, true);
        CHECKS.due("bars, needs, waits for nothing", x.done(0, 0, 0, 0, 0), 0);
        CHECKS.due("and may come again", x.done(0, 0, 0, 0, 0), 0);
        Checks.tell(x, "a0:9,");
        Checks.tell(x, "a0:0");
        x.right(0, 1, true);
        CHECKS.due("hours of a failed text don't count", x.done(0, 1, 0, 0, 0), 0);
    }

    private static void readRefusesAThirteenth() {
        MaterialBars x = new MaterialBars();
        for (int k = 0; k < 12; k++) {
            x.read();
        }
        CHECKS.refused("read on an empty pad", Checks.STATE, x, x::read);
        Checks.write(x, "t");
        CHECKS.refused("read t", Checks.STATE, x, x::read);
        CHECKS.due("the pad is kept", x.count(0), 1);
        x.unit('?');
        CHECKS.refused("read a bad text", Checks.STATE, x, x::read);
        CHECKS.due("that, too", x.count(0), 2);
    }

    private static void usesAddsUp() {
        MaterialBars x = new MaterialBars();
        Checks.tell(x, "u1*20,u1*5,u11*9999,u0*1,u01*0100");
        CHECKS.due("uses(0, 0)", x.uses(0, 0), 1);
        CHECKS.due("uses(0, 1)", x.uses(0, 1), 125);
        CHECKS.due("uses(0, 2)", x.uses(0, 2), 0);
        CHECKS.due("uses(0, 11)", x.uses(0, 11), 9999);
        Checks.tell(x, "u1*3");
        CHECKS.due("uses(1, 1)", x.uses(1, 1), 3);
        CHECKS.due("uses(0, 1) as before", x.uses(0, 1), 125);
    }

    private static void usesRefuses() {
        MaterialBars x = new MaterialBars();
        Checks.tell(x, "u1*3");
        int[][] wrong = {{-1, 0}, {1, 0}, {11, 0}, {12, 0}, {0, -1}, {0, 12}, {Integer.MIN_VALUE, 0},
            {0, Integer.MAX_VALUE}};
        for (int[] call : wrong) {
            CHECKS.refused("uses(" + call[0] + ", " + call[1] + ")", Checks.INDEX, x, () -> x.uses(call[0], call[1]));
        }
    }
}
