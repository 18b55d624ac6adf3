/** Checks that name the sentence of the document that they hold. */
class Edges extends Checks {
    static final String OBJECTS = "OBJECTS 0";
    static final String INSTRUCTION = "AN INSTRUCTION";
    static final String LINK = "TO LINK";
    static final String IMAGE = "THE IMAGE";
    static final String RUN = "TO RUN";

    /** The checks that follow hold a sentence of a passage. */
    static void holds(String passage, String sentence) {
        topic = passage + ", \"" + sentence + "\"";
        check("a sentence of the document", Document.name(passage, sentence), "none", "one");
    }

    /** A sentence that names no edge: the tests of its promise hold it. */
    static void hasNoEdge(String passage, String sentence) {
        holds(passage, sentence);
    }
}
