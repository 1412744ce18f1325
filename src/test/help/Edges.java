/** The edges that a test looks at, each named by the words of the document that tell it. */
final class Edges {
    private static int edges = 0;
    private static int wrong = 0;
    private static String words = "";

    private Edges() {
    }

    static void edge(String wordsOfTheDocument, Runnable test) {
        edges++;
        words = wordsOfTheDocument;
        try {
            test.run();
        } catch (RuntimeException e) {
            wrong("threw " + e);
        }
    }

    static void wrong(String what) {
        wrong++;
        if (wrong <= 50) {
            System.out.println("'" + words + "': " + what);
        }
    }

    static void end() {
        System.out.println(edges + " edges, " + (wrong == 0 ? "all hold" : wrong + " answers are wrong"));
        if (wrong != 0) {
            System.exit(1);
        }
    }
}
