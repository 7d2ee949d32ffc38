import java.util.NoSuchElementException;

/** A part of the document, with the tests of its sentences. */
abstract class Chapter {
    static final Class<IllegalArgumentException> ARGUMENT = IllegalArgumentException.class;
    static final Class<IllegalStateException> STATE = IllegalStateException.class;
    static final Class<IndexOutOfBoundsException> INDEX = IndexOutOfBoundsException.class;
    static final Class<UnsupportedOperationException> REFUSED = UnsupportedOperationException.class;
    static final Class<NoSuchElementException> NONE = NoSuchElementException.class;
    static final Class<ArithmeticException> DIVISION = ArithmeticException.class;

    final Check check;

    Chapter(Check check) {
        this.check = check;
    }

    /** Runs the tests of all sentences of this part. */
    abstract void tell(Sentences all);
}
