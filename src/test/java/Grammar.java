import java.util.ArrayList;
import java.util.HashSet;
import java.util.List;
import java.util.Set;

/**
 * The document's grammar of a SQUARE, word for word, read by following all derivations at once.
 * It is slow and knows nothing of how StruckWhile reads.
 */
final class Grammar {
    /** What is still to come: a sign or a name of a part, then the rest. */
    private record Rest(String part, Rest next) {
    }

    private Grammar() {
    }

    /** The FAULT; -1: the text is a SQUARE. */
    static int fault(String text) {
        Set<Rest> all = new HashSet<>();
        all.add(new Rest("clauses 10", null));
        for (int i = 0; i < text.length(); i++) {
            all = behind(all, text.charAt(i));
            if (all.isEmpty()) {
                return i;
            }
        }
        return all.contains(null) ? -1 : text.length();
    }

    private static Set<Rest> behind(Set<Rest> all, char sign) {
        Set<Rest> next = new HashSet<>();
        Set<Rest> known = new HashSet<>();
        List<Rest> open = new ArrayList<>(all);
        while (!open.isEmpty()) {
            Rest rest = open.remove(open.size() - 1);
            if (rest == null || !known.add(rest)) {
                continue;
            }
            if (rest.part.length() == 1) {
                if (rest.part.charAt(0) == sign) {
                    next.add(rest.next);
                }
                continue;
            }
            for (String way : ways(rest.part)) {
                open.add(ahead(way, rest.next));
            }
        }
        return next;
    }

    /** A way is parts with commas between. */
    private static Rest ahead(String way, Rest next) {
        String[] parts = way.split(",");
        Rest rest = next;
        for (int i = parts.length - 1; i >= 0; i--) {
            rest = new Rest(parts[i], rest);
        }
        return rest;
    }

    private static String[] ways(String part) {
        String[] words = part.split(" ");
        int n = words.length > 1 ? Integer.parseInt(words[1]) : 0;
        switch (words[0]) {
            case "clauses":
                return n == 1 ? new String[] {"clause"} : new String[] {"clause", "clause,;,clauses " + (n - 1)};
            case "clause":
                return new String[] {"h,e,a,t, ,number, ,E 0", "c,a,l,m, ,number, ,E 0", "s,p,a,r,k, ,number"};
            case "number":
                return new String[] {"digit", "digit,digit"};
            case "digit":
                return "0 1 2 3 4 5 6 7 8 9".split(" ");
            case "E":
                return new String[] {"T " + n, "T " + n + ",|,E " + n};
            case "T":
                return new String[] {"F " + n, "F " + n + ",&,T " + n};
            case "F":
                return n == 4 ? new String[] {"test"}
                    : new String[] {"test", "!,F " + (n + 1), "(,E " + (n + 1) + ",)"};
            case "test":
                return new String[] {"letter,comparison,number"};
            case "letter":
                return "p k v h n m".split(" ");
            case "comparison":
                return "< = >".split(" ");
            default:
                throw new IllegalStateException(part);
        }
    }
}
