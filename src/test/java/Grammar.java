import java.util.ArrayList;
import java.util.HashMap;
import java.util.LinkedHashSet;
import java.util.List;
import java.util.Map;
import java.util.Set;

/**
 * The grammar of the LAWS as the document tells it, and an Earley recogniser over it: the first byte at which no such
 * text can go on is the first one that leaves no item. Nothing here is shared with the parser under test.
 */
final class Grammar {
    private record Rule(String left, String[] right) { }

    private record Item(Rule rule, int dot, int from) { }

    private static final Map<String, List<Rule>> RULES = new HashMap<>();

    private static void rule(String left, String right) {
        String[] signs = right.isEmpty() ? new String[0] : right.split(" ");
        RULES.computeIfAbsent(left, k -> new ArrayList<>()).add(new Rule(left, signs));
    }

    static {
        rule("LAW", "B CLAUSES");
        rule("CLAUSES", "CLAUSE");
        rule("CLAUSES", "CLAUSE '; B CLAUSES");
        rule("CLAUSE", "'y B ': B SUM0");
        rule("CLAUSE", "'y B ': B COND0 '? B SUM0");
        rule("B", "");
        rule("B", "'_ B");
        for (int n = 0; n <= 6; n++) {
            rule("COND" + n, "TRUTH" + n);
            rule("COND" + n, "TRUTH" + n + " '| B COND" + n);
            rule("TRUTH" + n, "UNIT" + n);
            rule("TRUTH" + n, "UNIT" + n + " '& B TRUTH" + n);
            for (String sign : new String[] {"=", "<", ">"}) {
                rule("UNIT" + n, "SUM" + n + " '" + sign + " B SUM" + n);
            }
            rule("SUM" + n, "TERM" + n);
            rule("SUM" + n, "TERM" + n + " '+ B SUM" + n);
            rule("SUM" + n, "TERM" + n + " '- B SUM" + n);
            rule("TERM" + n, "ATOM" + n);
            rule("TERM" + n, "ATOM" + n + " '* B TERM" + n);
            rule("TERM" + n, "ATOM" + n + " '/ B TERM" + n);
            for (char letter : "bcdsnt".toCharArray()) {
                rule("ATOM" + n, "'" + letter + " B");
            }
            rule("ATOM" + n, "D B");
            rule("ATOM" + n, "D D B");
            rule("ATOM" + n, "D D D B");
            rule("ATOM" + n, "D D D D B");
            if (n < 6) {
                rule("UNIT" + n, "'! B UNIT" + (n + 1));
                rule("UNIT" + n, "'( B COND" + (n + 1) + " ') B");
                rule("ATOM" + n, "'[ B SUM" + (n + 1) + " '] B");
            }
        }
        for (char digit = '0'; digit <= '9'; digit++) {
            rule("D", "'" + digit);
        }
    }

    static int fault(String text) {
        Set<Item> items = new LinkedHashSet<>();
        List<Set<Item>> sets = new ArrayList<>();
        for (Rule r : RULES.get("LAW")) {
            items.add(new Item(r, 0, 0));
        }
        for (int at = 0; at <= text.length(); at++) {
            sets.add(items);
            complete(sets, at);
            if (at == text.length()) {
                break;
            }
            String sign = "'" + (text.charAt(at) == ' ' ? '_' : text.charAt(at));
            Set<Item> next = new LinkedHashSet<>();
            for (Item item : items) {
                if (item.dot < item.rule.right.length && item.rule.right[item.dot].equals(sign)) {
                    next.add(new Item(item.rule, item.dot + 1, item.from));
                }
            }
            if (next.isEmpty() || text.charAt(at) == '_') {
                return at;
            }
            items = next;
        }
        for (Item item : items) {
            if (item.rule.left.equals("LAW") && item.dot == item.rule.right.length && item.from == 0) {
                return -1;
            }
        }
        return text.length();
    }

    private static void complete(List<Set<Item>> sets, int at) {
        Set<Item> items = sets.get(at);
        List<Item> work = new ArrayList<>(items);
        for (int i = 0; i < work.size(); i++) {
            Item item = work.get(i);
            List<Item> more = new ArrayList<>();
            if (item.dot == item.rule.right.length) {
                for (Item waiting : new ArrayList<>(sets.get(item.from))) {
                    if (waiting.dot < waiting.rule.right.length
                            && waiting.rule.right[waiting.dot].equals(item.rule.left)) {
                        more.add(new Item(waiting.rule, waiting.dot + 1, waiting.from));
                    }
                }
            } else if (item.rule.right[item.dot].charAt(0) != '\'') {
                for (Rule r : RULES.get(item.rule.right[item.dot])) {
                    more.add(new Item(r, 0, at));
                }
                if (item.rule.right[item.dot].equals("B")) {
                    more.add(new Item(item.rule, item.dot + 1, item.from));
                }
            }
            for (Item found : more) {
                if (items.add(found)) {
                    work.add(found);
                }
            }
        }
    }
}
