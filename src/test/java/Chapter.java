import java.util.List;
import java.util.NoSuchElementException;

/** Checks of sentences: each one is told word by word, and the checks that follow are its own. */
abstract class Chapter {
    static final Class<?> RANGE = IllegalArgumentException.class;
    static final Class<?> STATE = IllegalStateException.class;
    static final Class<?> INDEX = IndexOutOfBoundsException.class;
    static final Class<?> NOT = UnsupportedOperationException.class;
    static final Class<?> NONE = NoSuchElementException.class;
    static final Class<?> DIVISION = ArithmeticException.class;
    static final int LEAST = Integer.MIN_VALUE;
    static final int MOST = Integer.MAX_VALUE;

    interface Make {
        Cycleworks make();
    }

    interface On {
        Object answer(Cycleworks x);
    }

    interface OnNumber {
        Object answer(Cycleworks x, int number);
    }

    private final Document document;
    private final Check check;
    private int promise = 0;
    private String words = "";
    private int checksOfWords = 1;

    Chapter(Document document, Check check) {
        this.document = document;
        this.check = check;
    }

    abstract void run();

    /** The promise whose sentences come next; 0 for the terms. */
    void of(int number) {
        promise = number;
    }

    /** The words of which the next checks are. */
    void says(String... quotes) {
        endWords();
        for (String quote : quotes) {
            check.is(promise + " \"" + quote + "\" stands in the document", document.quote(promise, quote), true);
        }
        words = quotes[0];
        checksOfWords = 0;
    }

    void endWords() {
        check.is(promise + " \"" + words + "\" has checks", checksOfWords > 0, true);
    }

    private String label() {
        checksOfWords++;
        return promise + " \"" + words + "\", check " + checksOfWords;
    }

    void due(Check.Call call, Object due) {
        check.call(label(), call, due);
    }

    /** On a fresh object. */
    void due(Make make, On call, Object due) {
        Cycleworks x = make.make();
        check.call(label(), () -> call.answer(x), due);
    }

    /** On a fresh object, which tells the same as one without the call. */
    void refuses(Make make, On call, Class<?> due) {
        Cycleworks x = make.make();
        String label = label();
        check.call(label, () -> call.answer(x), due);
        check.is(label + " changes nothing", firstUnlike(Told.all(x), Told.all(make.make())), "");
    }

    private static String firstUnlike(List<Object> got, List<Object> due) {
        for (int i = 0; i < due.size(); i++) {
            if (!due.get(i).equals(got.get(i))) {
                return "answer " + i + " is " + got.get(i) + ", due is " + due.get(i);
            }
        }
        return "";
    }

    /** Numbers outside of a range are refused so, and those at both its ends not so. */
    void range(Make make, int least, int most, OnNumber call, Class<?> due) {
        for (int number : new int[] {least - 1, most + 1, LEAST, MOST}) {
            refuses(make, x -> call.answer(x, number), due);
        }
        for (int number : new int[] {least, most}) {
            Cycleworks x = make.make();
            Object got = Check.outcome(() -> call.answer(x, number));
            check.is(label() + ": " + number + " is in the range", due.equals(got), false);
        }
    }
}
