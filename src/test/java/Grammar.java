import java.util.ArrayList;
import java.util.LinkedHashSet;
import java.util.List;
import java.util.Set;

/**
 * Where a text fails to be a parish, found sign by sign: all that a text can still become is kept
 * as a set of rests, each rest a pile of what has yet to come, topmost first.
 */
final class Grammar {
    private Grammar() {
    }

    /** The place of the fault; -1: the text is a parish. */
    static int fault(String text) {
        Set<String> rests = opened("C0");
        for (int i = 0; i < text.length(); i++) {
            Set<String> next = new LinkedHashSet<>();
            for (String rest : rests) {
                if (!rest.isEmpty() && takes(rest.charAt(0), text.charAt(i))) {
                    next.addAll(opened(rest.substring(1)));
                }
            }
            if (next.isEmpty()) {
                return i;
            }
            rests = next;
        }
        return rests.contains("") ? -1 : text.length();
    }

    /** Upper-case letters of one sign: D a digit, L a letter of a test, O its comparison. */
    private static boolean takes(char want, char sign) {
        switch (want) {
            case 'D':
                return sign >= '0' && sign <= '9';
            case 'L':
                return "pkvlyd".indexOf(sign) >= 0;
            case 'O':
                return "<=>".indexOf(sign) >= 0;
            default:
                return want == sign;
        }
    }

    /** All rests whose topmost is a sign (or that are empty), by every rule for what is topmost. */
    private static Set<String> opened(String rest) {
        Set<String> all = new LinkedHashSet<>();
        List<String> open = new ArrayList<>();
        open.add(rest);
        while (!open.isEmpty()) {
            String one = open.remove(open.size() - 1);
            if (one.isEmpty() || "CNETF".indexOf(one.charAt(0)) < 0) {
                all.add(one);
            } else {
                open.addAll(rules(one));
            }
        }
        return all;
    }

    /** C n: clauses behind n others; N: a number; E, T, F d: so, within d others. */
    private static List<String> rules(String one) {
        List<String> found = new ArrayList<>();
        if (one.charAt(0) == 'N') {
            String behind = one.substring(1);
            found.add("D" + behind);
            found.add("DD" + behind);
            return found;
        }
        int d = one.charAt(1) - '0';
        String behind = one.substring(2);
        switch (one.charAt(0)) {
            case 'C':
                String next = ";C" + (d + 1);
                for (String clause : new String[] {"more N E0", "less N E0", "yard N"}) {
                    found.add(clause + behind);
                    if (d < 9) {
                        found.add(clause + next + behind);
                    }
                }
                break;
            case 'E':
                found.add("T" + d + behind);
                found.add("T" + d + "|E" + d + behind);
                break;
            case 'T':
                found.add("F" + d + behind);
                found.add("F" + d + "&T" + d + behind);
                break;
            default:
                found.add("LON" + behind);
                if (d < 4) {
                    found.add("!F" + (d + 1) + behind);
                    found.add("(E" + (d + 1) + ")" + behind);
                }
                break;
        }
        return found;
    }
}
