import java.util.LinkedHashMap;
import java.util.Map;

/**
 * What a desk shows of people, banks, accounts and loans (three of each at most, lest the calls of an object become too
 * many); not the tape, the fault, and what the latest day told.
 */
final class Shown {
    private final Map<String, Long> answers = new LinkedHashMap<>();

    Shown(CoverDesk d) {
        for (int what = 0; what < 8; what++) {
            put("look " + what, d.look(what));
        }
        for (int a = 0; a < Math.min(3, d.look(2)); a++) {
            account(d, a);
        }
        for (int b = 0; b < Math.min(3, d.look(1)); b++) {
            for (int what = 0; what < 5; what++) {
                put("bank " + b + " " + what, d.bank(b, what));
            }
            for (int what = 0; what < 3; what++) {
                put("held " + b + " " + what, d.held(b, what));
            }
        }
        for (int p = 0; p < Math.min(3, d.look(0)); p++) {
            person(d, p);
        }
        for (int l = 0; l < Math.min(3, d.look(3)); l++) {
            for (int what = 0; what < 3; what++) {
                put("loan " + l + " " + what, d.loan(l, what));
            }
        }
        for (int what = 0; what < 6; what++) {
            put("total " + what, d.total(what));
        }
        put("changes", d.change(CoverDesk.NONE));
        put("worst", d.worst(0));
    }

    private void account(CoverDesk d, int a) {
        for (int what = 0; what < 10; what++) {
            put("account " + a + " " + what, d.account(a, what));
        }
        for (int k = 0; k < Math.min(2, d.account(a, 5)); k++) {
            put("owner " + a + " " + k, d.owner(a, k, 0));
            put("insured " + a + " " + k, d.owner(a, k, 2));
            for (int what = 0; what < 4; what++) {
                put("came " + a + " " + k + " " + what, d.came(a, k, what));
            }
        }
    }

    private void person(CoverDesk d, int p) {
        put("not insured of " + p, d.of(p, d.look(4), 2));
        put("warns " + p, d.warns(p));
        put("moves " + p, d.moves(p, 2));
        put("rank " + p, d.rank(p));
    }

    private void put(String call, long answer) {
        answers.put(call, answer);
    }

    /** What the desk shows now otherwise than then; empty: nothing. */
    String unlike(CoverDesk d) {
        Shown now = new Shown(d);
        StringBuilder b = new StringBuilder();
        for (Map.Entry<String, Long> was : answers.entrySet()) {
            Long is = now.answers.get(was.getKey());
            if (!was.getValue().equals(is)) {
                b.append(was.getKey()).append(" (").append(was.getValue()).append(" is ").append(is).append(") ");
            }
        }
        return answers.size() == now.answers.size() ? b.toString() : b + "how many";
    }
}
