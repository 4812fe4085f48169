/** Whatever answers the calls of the face by their names: the class itself, or the second writing of the document. */
interface Answering {
    /** Answers a call; a boolean counts 1 or 0, and arguments that the call does not have are passed over. */
    long answer(String name, int a, int b);

    /** The same as a text, with the name of the exception if the call throws one. */
    default String told(String name, int a, int b) {
        try {
            return String.valueOf(answer(name, a, b));
        } catch (RuntimeException e) {
            return e.getClass().getName();
        }
    }
}
