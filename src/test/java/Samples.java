/** Objects for the tests, made by calls of the face alone. */
final class Samples {
    private Samples() {}

    static void write(MaterialBars x, String text) {
        for (int k = 0; k < text.length(); k++) {
            x.unit(text.charAt(k));
        }
    }

    static int tell(MaterialBars x, String text) {
        write(x, text);
        return x.read();
    }

    /** What read answers to this text on a new object. */
    static int read(String text) {
        return tell(new MaterialBars(), text);
    }

    /** An object with these methods, and with one object of these materials. */
    static MaterialBars made(String materials, String... texts) {
        MaterialBars x = new MaterialBars();
        for (String text : texts) {
            if (tell(x, text) < 0) {
                throw new IllegalArgumentException(text);
            }
        }
        x.object();
        for (int k = 0; k < materials.length(); k++) {
            x.part(0, materials.charAt(k) - '0');
        }
        return x;
    }

    /** The same, and the persons 0 and 1 have a right to all methods. */
    static MaterialBars allowed(String materials, String... texts) {
        MaterialBars x = made(materials, texts);
        for (int method = 0; method < texts.length; method++) {
            x.right(0, method, true);
            x.right(1, method, true);
        }
        return x;
    }

    /** Twelve methods with empty texts, one object; the persons 0 and 1 have a right to all. */
    static MaterialBars twelve() {
        return allowed("", "", "", "", "", "", "", "", "", "", "", "", "");
    }

    /** One object with this many rows, of method 0 at the hours 0, 1, ..; method 1 is barred on it. */
    static MaterialBars withRows(int rows) {
        MaterialBars x = allowed("1", "", "b1");
        for (int k = 0; k < rows; k++) {
            x.done(0, 0, 0, 0, k);
        }
        return x;
    }

    static MaterialBars withSigns(int signs) {
        MaterialBars x = new MaterialBars();
        write(x, "b9,u0001*0007,u11*1234,a0:5,x0,t,i,u0001*1000,u2*1".substring(0, signs));
        return x;
    }

    /** Something of everything, so that a call that should change nothing has much that it could change. */
    static MaterialBars busy() {
        MaterialBars x = made("24", "u1*20,u1*5,b3", "a0:5,t", "x1,i", "u11*2");
        x.object();
        x.part(1, 3);
        for (int method = 0; method < 4; method++) {
            x.right(0, method, true);
        }
        x.right(1, 2, true);
        x.right(7, 3, true);
        x.trial(1, 2, true);
        x.trial(3, 9, true);
        x.stock(1, 90);
        x.stock(1, -3);
        x.stock(11, 8);
        x.put(1, 0);
        x.put(2, 5);
        x.put(3, 5);
        x.apart(1, 2);
        x.apart(11, 0);
        x.done(0, 0, 0, 0, 10);
        x.done(0, 3, 0, 0, 12);
        x.done(0, 2, 0, 1, 12);
        x.done(1, 3, 7, 7, 3);
        x.plan(1, 4);
        write(x, "b2,t");
        return x;
    }

    /** The answer to plan if it is below 0, else the steps. */
    static String planned(MaterialBars x, int object, int set) {
        int length = x.plan(object, set);
        return length < 0 ? String.valueOf(length) : length + ": " + steps(x);
    }

    static String steps(MaterialBars x) {
        StringBuilder text = new StringBuilder();
        for (int k = 0; k < x.count(4); k++) {
            text.append(k == 0 ? "" : " ").append(x.step(k));
        }
        return text.toString();
    }
}
