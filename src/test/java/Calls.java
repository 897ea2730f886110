/** Makes calls that are written as a text, as "give 65; code false", and tells their answers. */
final class Calls {
    /** The calls that the document says an object is made for. */
    static final int MOST = 512;
    private static final int COUNTS = 6;

    private final ResumableCoder coder = new ResumableCoder();
    private int made;

    /** The answers in their order; yes is 1 and no is 0. */
    String make(String calls) {
        StringBuilder answers = new StringBuilder();
        for (String call : calls.split(";")) {
            if (!call.isBlank()) {
                answers.append(answers.length() == 0 ? "" : " ").append(one(call.strip()));
            }
        }
        if (made > MOST) {
            throw new IllegalStateException("more than 512 calls");
        }
        return answers.toString();
    }

    int made() {
        return made;
    }

    private String one(String call) {
        String[] words = call.split(" ");
        if (words[0].equals("counts")) {
            made += COUNTS;
            return "[" + Due.counts(coder) + "]";
        }
        if (words[0].equals("all")) {
            made += 2 * coder.ready() + 2;
            return "<" + Due.fetched(coder).strip() + ">";
        }
        made++;
        return "" + answer(words);
    }

    private int answer(String[] words) {
        switch (words[0]) {
            case "open":
                return yes(coder.open(number(words[1]), words[2].equals("encode"),
                        number(words[3]), number(words[4])));
            case "map": return yes(coder.map(number(words[1]), number(words[2])));
            case "give": return yes(coder.give(number(words[1])));
            case "room": return yes(coder.room(number(words[1])));
            case "code": return coder.code(words[1].equals("end"));
            case "flush": return coder.flush();
            case "reset": return yes(coder.reset());
            case "pass": return yes(coder.pass());
            case "fetch": return coder.fetch();
            case "state": return coder.state();
            case "waiting": return coder.waiting();
            case "ready": return coder.ready();
            case "taken": return coder.taken();
            case "put": return coder.put();
            case "faults": return coder.faults();
            default: throw new IllegalArgumentException(words[0]);
        }
    }

    private static int number(String word) {
        return Integer.parseInt(word);
    }

    private static int yes(boolean answer) {
        return answer ? 1 : 0;
    }

    /** So many times the same call. */
    static String times(int n, String call) {
        return (call + "; ").repeat(n);
    }
}
