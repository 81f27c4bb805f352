import java.util.ArrayList;
import java.util.List;
import java.util.Set;

/** Sentences of the document with runs of calls, each on a new wall, that would answer otherwise if a sentence were broken. */
final class Edge {
    static final Set<String> REFUSALS = Set.of("UNKNOWN", "OUTSIDE", "STATE", "FULL");
    static final Set<String> FAILURES = Set.of("NULL", "INDEX", "SIZE", "CAST", "STORE", "ARITHMETIC", "HELD", "WORD");

    /** A call as it is told; what is due is null where it is only to pass. */
    static final class Call {
        final int line;
        final String name;
        final List<String> args;
        final String due;

        Call(int line, String name, List<String> args, String due) {
            this.line = line;
            this.name = name;
            this.args = args;
            this.due = due;
        }

        boolean isRefused() {
            return due != null && REFUSALS.contains(due);
        }

        boolean fails() {
            return due != null && FAILURES.contains(due);
        }

        /** What an ACT that FAILS did to NOTCHES and SIGNALS stays, and what haul() hung ahead of a STORE. */
        boolean leavesNothing() {
            return isRefused() || fails() && !name.equals("act") && !(name.equals("haul") && due.equals("STORE"));
        }

        boolean mayHaveWord() {
            return fails() && (due.equals("WORD") || due.equals("HELD") || name.equals("haul") && due.equals("STORE"));
        }

        @Override
        public String toString() {
            return name + "(" + String.join(", ", args) + ")";
        }
    }

    final String file;
    final int line;
    final int promise;
    final List<String> sentences = new ArrayList<>();
    final List<List<Call>> runs = new ArrayList<>();

    Edge(String file, int line, int promise) {
        this.file = file;
        this.line = line;
        this.promise = promise;
    }
}
