/** Tests of sentences: each begins with the sentence that it holds, quoted as it stands in the document. */
final class Edges {
    private final Due due = new Due();
    private final Document document = new Document();
    private String sentence = "";

    /** What is asked from here on is what this sentence of this section promises. */
    void sentence(int section, String words) {
        sentence = (section > 0 ? "promise " + section : "terms") + ", '" + words + "': ";
        due.is(sentence + "stands in the document", document.says(section, words) ? 1 : 0, 1);
        document.quoted(section, words);
    }

    void is(String what, long got, long want) {
        due.is(sentence + what, got, want);
    }

    void due(ColdOaths x, long want, String call, int... args) {
        is(Call.told(call, args), Call.of(x, call, args), want);
    }

    /** A call that names faults, and comes to none. */
    void clean(ColdOaths x, long want, String call, int... args) {
        due(x, want, call, args);
        is(Call.told(call, args) + ", then fault()", x.fault(), 0);
    }

    void fails(ColdOaths x, int fault, String call, int... args) {
        due(x, call.equals("cell") ? ColdOaths.LOST : -10 - fault, call, args);
        is(Call.told(call, args) + ", then fault()", x.fault(), fault);
    }

    /** What day() answers to a text on a new object. */
    void text(long want, String text) {
        ColdOaths x = new ColdOaths();
        is("day of " + text, Days.tell(x, text), want);
        is("day of " + text + ", then fault()", x.fault(), 0);
    }

    void firstFault(int place, String text) {
        text(-100 - place, text);
    }

    void same(String what, String got, String want) {
        if (!got.equals(want)) {
            System.out.println("got  " + got);
            System.out.println("want " + want);
        }
        is(what, got.equals(want) ? 1 : 0, 1);
    }

    void end() {
        for (int section : document.sections()) {
            if (section != Document.HEAD) {
                String rest = document.unquoted(section);
                due.is("section " + section + " has words without a test: " + rest, rest.length(), 0);
            }
        }
        due.is("promises in the document", document.sections().size() - 2, Document.PROMISES);
        due.end();
    }
}
