/** One sentence of the document that names a boundary case: what isn't as due in its test is told with it. */
final class Edge {
    private final int promise;
    private final String sentence;

    private Edge(int promise, String sentence) {
        this.promise = promise;
        this.sentence = sentence;
    }

    static Edge promise(int promise, String sentence) {
        return new Edge(promise, sentence);
    }

    /** A sentence of the terms, and the promise whose calls show it. */
    static Edge term(int promise, String sentence) {
        return new Edge(promise, sentence);
    }

    Edge due(String call, long got, long want) {
        Due.due(promise, "\"" + sentence + "\": " + call, got, want);
        return this;
    }

    Edge beyond(String call, long got) {
        return due(call, got, Due.BEYOND);
    }
}
