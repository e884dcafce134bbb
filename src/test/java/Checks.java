import java.util.ArrayList;
import java.util.List;
import java.util.function.Consumer;
import java.util.function.Supplier;
import java.util.function.ToLongFunction;

/** Counts what a test asks, and ends with exit code 1 if an answer was not the due one. */
final class Checks {
    static final Class<IndexOutOfBoundsException> INDEX = IndexOutOfBoundsException.class;
    static final Class<IllegalStateException> STATE = IllegalStateException.class;
    static final Class<IllegalArgumentException> ARGUMENT = IllegalArgumentException.class;

    /** Of one sentence: the others should not go under in its wrong answers. */
    private static final int MOST_TOLD = 5;

    private final String name;
    private final Document document;
    private final List<String> withoutAnswers = new ArrayList<>();
    private String section = "";
    private String sentence = "";
    private int sentences = 0;
    private int made = 0;
    private int madeBefore = 0;
    private int wrong = 0;
    private int wrongBefore = 0;

    Checks(String name) {
        this(name, new Document());
    }

    Checks(String name, Document document) {
        this.name = name;
        this.document = document;
    }

    /** The test of one sentence, which it names first; an exception that ends it ends no other test. */
    void test(Consumer<Checks> one) {
        try {
            one.accept(this);
        } catch (RuntimeException e) {
            tellWrong("ended by " + e);
        }
    }

    /** What is asked from here on tests sentences of this section of the document. */
    void section(String heading) {
        endSentence();
        section = heading;
    }

    /** What is asked from here on is the test of this sentence. */
    void sentence(String words) {
        endSentence();
        sentence = words;
        madeBefore = made;
        sentences++;
        if (!document.quote(section, words)) {
            tellWrong("the document does not say so");
        }
    }

    private void endSentence() {
        if (!sentence.isEmpty() && made == madeBefore) {
            withoutAnswers.add(sentence);
        }
        sentence = "";
        wrongBefore = wrong;
    }

    void due(String what, long got, long want) {
        due(what, String.valueOf(got), String.valueOf(want));
    }

    void due(String what, boolean got, boolean want) {
        due(what, String.valueOf(got), String.valueOf(want));
    }

    void due(String what, String got, String want) {
        made++;
        if (!got.equals(want)) {
            tellWrong(what + " answered " + got + ", due is " + want);
        }
    }

    /** The call has to throw just this exception, and to change nothing that a later call shows. */
    void refused(String what, Class<? extends RuntimeException> kind, Supplier<MaterialBars> maker,
            ToLongFunction<MaterialBars> call) {
        due(what, answerOf(call, maker.get()), kind.getSimpleName());
        changesNothing(what, maker, call);
    }

    /** The call has to answer this, and to change nothing that a later call shows. */
    void inVain(String what, long want, Supplier<MaterialBars> maker, ToLongFunction<MaterialBars> call) {
        due(what, answerOf(call, maker.get()), String.valueOf(want));
        changesNothing(what, maker, call);
    }

    private void changesNothing(String what, Supplier<MaterialBars> maker, ToLongFunction<MaterialBars> call) {
        List<String> without = Later.shows(maker);
        List<String> with = Later.shows(() -> {
            MaterialBars x = maker.get();
            answerOf(call, x);
            return x;
        });
        due("behind " + what + ", how many later calls", with.size(), without.size());
        for (int k = 0; k < without.size() && k < with.size(); k++) {
            due("behind " + what + ", a later call", with.get(k), without.get(k));
        }
    }

    /** The answer, or the name of what is thrown. */
    static String answerOf(ToLongFunction<MaterialBars> call, MaterialBars x) {
        try {
            return String.valueOf(call.applyAsLong(x));
        } catch (RuntimeException e) {
            return e.getClass().getSimpleName();
        }
    }

    void end() {
        endSentence();
        for (String words : withoutAnswers) {
            tellWrong("nothing is asked about: " + words);
        }
        for (String words : document.notQuoted()) {
            tellWrong("no test is about: " + words);
        }
        String about = sentences == 0 ? "" : sentences + " sentences, ";
        System.out.println(name + ": " + about + made + " answers asked, " + wrong + " wrong");
        if (wrong != 0 || made == 0) {
            System.exit(1);
        }
    }

    private void tellWrong(String text) {
        wrong++;
        if (wrong - wrongBefore <= MOST_TOLD) {
            String about = sentence.isEmpty() ? "" : section + ", \"" + sentence + "\": ";
            System.out.println(name + ": " + about + text);
        }
    }
}
