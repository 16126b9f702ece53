import java.nio.charset.StandardCharsets;
import java.util.ArrayList;
import java.util.Arrays;
import java.util.HashMap;
import java.util.List;
import java.util.Map;
import java.util.NoSuchElementException;
import java.util.regex.Matcher;
import java.util.regex.Pattern;

/** The document told a second time, with objects, maps and patterns, to compare HorseFair with. */
final class PlainFair {
    static final class Person {
        int number;
        int pence;
    }

    static final class Horse {
        int number;
        Person holder;
        Person title;
        final Map<Integer, int[]> found = new HashMap<>();
        final List<int[]> hands = new ArrayList<>();
        final List<Sale> standing = new ArrayList<>();
        /** The sales since holder and title are apart. */
        final List<Sale> sinceApart = new ArrayList<>();
    }

    static final class Sale {
        int number;
        Horse horse;
        Person seller;
        Person buyer;
        int price;
        int warrants;
        int land;
        int day;
        boolean gaveTitle;
    }

    static final class Debt {
        Person debtor;
        Person creditor;
        int first;
        int left;
    }

    private static final Pattern RULE_TOKEN = Pattern.compile("[a-z0-9]+|[^ \n]");

    private final List<Person> people = new ArrayList<>();
    private final List<Horse> horses = new ArrayList<>();
    private final List<Sale> sales = new ArrayList<>();
    private final List<Debt> debts = new ArrayList<>();
    private final List<Map<String, Integer>> laws =
            new ArrayList<>(List.of(new HashMap<>(), new HashMap<>(), new HashMap<>()));
    private final int[] chests = new int[3];
    private String tape = "";
    private long came = 0;
    private int day = 0;
    private int wrong = 0;
    private int hands = 0;

    int feed(int a, int b, int c, int d, int e) {
        if (tape.length() + 20 > 320) {
            return -1;
        }
        byte[] more = java.nio.ByteBuffer.allocate(20).putInt(a).putInt(b).putInt(c).putInt(d).putInt(e).array();
        tape += new String(more, StandardCharsets.ISO_8859_1);
        return tape.length();
    }

    boolean end(int n) {
        if (n < 0 || n > tape.length()) {
            return false;
        }
        tape = tape.substring(0, n);
        return true;
    }

    int law(int l) {
        if (l < 0 || l > 2) {
            throw new IndexOutOfBoundsException();
        }
        String text = tape;
        tape = "";
        Map<String, Integer> rules = new HashMap<>();
        int[] fault = faultOf(text, rules);
        wrong = fault[1];
        if (wrong != 0) {
            return -1 - fault[0];
        }
        laws.set(l, rules);
        return rules.size();
    }

    /** The rules one by one, each by what its tokens must look like. */
    private static int[] faultOf(String text, Map<String, Integer> rules) {
        List<String> tokens = new ArrayList<>();
        List<Integer> places = new ArrayList<>();
        Matcher m = RULE_TOKEN.matcher(text);
        while (m.find() && m.start() < 300) {
            tokens.add(m.group());
            places.add(m.start());
        }
        // What is behind 300 bytes, or at the end, is no token.
        tokens.add("");
        places.add(Math.min(text.length(), 300));
        int i = 0;
        while (i < tokens.size() - 1) {
            String word = tokens.get(i);
            if (!word.matches("days|warrant|toll|open")) {
                return new int[] {places.get(i), 1};
            }
            String rule = word;
            if (word.matches("days|warrant")) {
                i++;
                if (!tokens.get(i).matches("[0-9]{1,3}")) {
                    return new int[] {places.get(i), 1};
                }
                int fault = Integer.parseInt(tokens.get(i));
                if (fault > 5) {
                    return new int[] {places.get(i), 2};
                }
                rule = word + fault;
            }
            if (rules.containsKey(rule)) {
                return new int[] {places.get(i), 3};
            }
            i++;
            if (!tokens.get(i).matches("[0-9]{1,3}")) {
                return new int[] {places.get(i), 1};
            }
            rules.put(rule, Integer.parseInt(tokens.get(i)));
            i++;
            if (!tokens.get(i).equals(";")) {
                return new int[] {places.get(i), 1};
            }
            i++;
        }
        return text.length() > 300 ? new int[] {300, 1} : new int[] {0, 0};
    }

    int wrong() {
        return wrong;
    }

    int rule(int l, int what) {
        if (l < 0 || l > 2) {
            throw new IndexOutOfBoundsException();
        }
        if (what == 14) {
            return chests[l];
        }
        if (what < 0 || what > 14) {
            return -1;
        }
        return told(l, what == 0 ? "toll" : what == 1 ? "open" : what < 8 ? "days" + (what - 2) : "warrant" + (what - 8));
    }

    private int told(int land, String rule) {
        return laws.get(land).getOrDefault(rule, 0);
    }

    int person(int pence) {
        if (people.size() == 16 || pence < 0 || pence > 1000000 || came + pence > 1000000000L) {
            return -1;
        }
        Person p = new Person();
        p.number = people.size();
        p.pence = pence;
        came += pence;
        people.add(p);
        return p.number;
    }

    int coin(int p, int pence) {
        if (!in(people, p) || pence < 1 || pence > 1000000 || came + pence > 1000000000L) {
            return -1;
        }
        came += pence;
        people.get(p).pence += pence;
        payDebts();
        return people.get(p).pence;
    }

    int horse(int p) {
        if (!in(people, p) || horses.size() == 40) {
            return -1;
        }
        Horse h = new Horse();
        h.number = horses.size();
        h.title = people.get(p);
        horses.add(h);
        goTo(h, people.get(p), 0);
        return h.number;
    }

    private void goTo(Horse h, Person p, int how) {
        h.holder = p;
        if (hands < 400) {
            hands++;
            h.hands.add(new int[] {p.number, day, how});
        }
        together(h);
    }

    private void together(Horse h) {
        if (h.holder == h.title) {
            h.sinceApart.clear();
        }
    }

    int sell(int h, int buyer, int price, int warrants, int land) {
        if (!in(horses, h) || !in(people, buyer) || horses.get(h).holder.number == buyer) {
            return -2;
        }
        if (land < 0 || land > 2 || price < 0 || price > 100000 || warrants < 0 || warrants > 63) {
            return -3;
        }
        if (people.get(buyer).pence < price) {
            return -4;
        }
        if (sales.size() == 80) {
            return -5;
        }
        Sale s = new Sale();
        s.number = sales.size();
        s.horse = horses.get(h);
        s.seller = s.horse.holder;
        s.buyer = people.get(buyer);
        s.price = price;
        s.warrants = warrants;
        s.land = land;
        s.day = day;
        s.gaveTitle = s.horse.title == s.seller;
        sales.add(s);
        s.horse.standing.add(s);
        s.horse.sinceApart.add(s);
        int toll = (int) ((long) price * told(land, "toll") / 1000);
        s.buyer.pence -= price;
        s.seller.pence += price - toll;
        chests[land] += toll;
        payDebts();
        if (s.gaveTitle) {
            s.horse.title = s.buyer;
        }
        goTo(s.horse, s.buyer, 1);
        return s.number;
    }

    private void payDebts() {
        boolean again = true;
        while (again) {
            again = false;
            for (Debt d : debts) {
                if (d.left > 0 && d.debtor.pence > 0) {
                    int paid = Math.min(d.left, d.debtor.pence);
                    d.left -= paid;
                    d.debtor.pence -= paid;
                    d.creditor.pence += paid;
                    again = true;
                    break;
                }
            }
        }
    }

    private void undo(Sale s) {
        s.horse.standing.remove(s);
        s.horse.sinceApart.remove(s);
        int paid = Math.min(s.price, s.seller.pence);
        s.seller.pence -= paid;
        s.buyer.pence += paid;
        if (paid < s.price) {
            Debt d = new Debt();
            d.debtor = s.seller;
            d.creditor = s.buyer;
            d.first = s.price - paid;
            d.left = d.first;
            debts.add(d);
        }
        payDebts();
    }

    boolean find(int h, int f, int since) {
        if (!in(horses, h) || f < 0 || f > 5 || since < 0 || since > day || horses.get(h).found.containsKey(f)) {
            return false;
        }
        horses.get(h).found.put(f, new int[] {day, since});
        return true;
    }

    int back(int h) {
        if (!in(horses, h) || horses.get(h).standing.isEmpty()) {
            return -1;
        }
        Horse horse = horses.get(h);
        Sale s = horse.standing.get(horse.standing.size() - 1);
        boolean lets = horse.found.entrySet().stream().anyMatch(e -> e.getValue()[1] <= s.day
                && day <= s.day + told(s.land, ((s.warrants & 1 << e.getKey()) != 0 ? "warrant" : "days") + e.getKey()));
        if (!lets || s.buyer != horse.holder) {
            return -1;
        }
        undo(s);
        if (s.gaveTitle && horse.title == s.buyer) {
            horse.title = s.seller;
        }
        goTo(horse, s.seller, 2);
        return s.number;
    }

    int trace(int h) {
        if (!in(horses, h)) {
            return -1;
        }
        int many = 0;
        while (back(h) >= 0) {
            many++;
        }
        return many;
    }

    boolean steal(int h, int thief) {
        if (!in(horses, h) || !in(people, thief) || horses.get(h).holder.number == thief) {
            return false;
        }
        goTo(horses.get(h), people.get(thief), 3);
        return true;
    }

    int claim(int h) {
        if (!in(horses, h) || horses.get(h).holder == horses.get(h).title) {
            return -1;
        }
        Horse horse = horses.get(h);
        List<Sale> made = new ArrayList<>(horse.sinceApart);
        for (int i = made.size() - 1; i >= 0; i--) {
            undo(made.get(i));
        }
        goTo(horse, horse.title, 4);
        return made.size();
    }

    int next() {
        if (day == 999) {
            return -1;
        }
        day++;
        for (Horse h : horses) {
            if (h.holder != h.title && !h.standing.isEmpty()) {
                Sale s = h.standing.get(h.standing.size() - 1);
                int open = told(s.land, "open");
                if (s.buyer == h.holder && open > 0 && day >= s.day + open) {
                    h.title = h.holder;
                    s.gaveTitle = true;
                    together(h);
                }
            }
        }
        return day;
    }

    int about(int h, int what) {
        need(in(horses, h) && what >= 0 && what <= 4);
        Horse x = horses.get(h);
        int latest = x.standing.isEmpty() ? -1 : x.standing.get(x.standing.size() - 1).number;
        int bits = x.found.keySet().stream().mapToInt(f -> 1 << f).sum();
        return new int[] {x.holder.number, x.title.number, latest, bits, x.hands.size()}[what];
    }

    int fault(int h, int f, int what) {
        need(in(horses, h) && f >= 0 && f <= 5 && what >= 0 && what <= 1);
        return horses.get(h).found.getOrDefault(f, new int[] {-1, -1})[what];
    }

    int sale(int k, int what) {
        need(in(sales, k) && what >= 0 && what <= 7);
        Sale s = sales.get(k);
        int undone = s.horse.standing.contains(s) ? 0 : 1;
        return new int[] {s.horse.number, s.seller.number, s.buyer.number, s.price, s.warrants, s.land, s.day,
            undone}[what];
    }

    int purse(int p, int what) {
        need(in(people, p) && what >= 0 && what <= 4);
        Person x = people.get(p);
        int owes = debts.stream().filter(d -> d.debtor == x).mapToInt(d -> d.left).sum();
        int owed = debts.stream().filter(d -> d.creditor == x).mapToInt(d -> d.left).sum();
        int holds = (int) horses.stream().filter(h -> h.holder == x).count();
        int titles = (int) horses.stream().filter(h -> h.title == x).count();
        return new int[] {x.pence, owes, owed, holds, titles}[what];
    }

    int debt(int k, int what) {
        need(in(debts, k) && what >= 0 && what <= 3);
        Debt d = debts.get(k);
        return new int[] {d.debtor.number, d.creditor.number, d.first, d.left}[what];
    }

    int hand(int h, int i, int what) {
        need(in(horses, h) && in(horses.get(h).hands, i) && what >= 0 && what <= 2);
        return horses.get(h).hands.get(i)[what];
    }

    int count(int what) {
        if (what < 0 || what > 7) {
            return -1;
        }
        int stand = horses.stream().mapToInt(h -> h.standing.size()).sum();
        return new int[] {day, people.size(), horses.size(), sales.size(), stand, debts.size(), tape.length(),
            hands}[what];
    }

    private static boolean in(List<?> all, int i) {
        return i >= 0 && i < all.size();
    }

    private static void need(boolean holds) {
        if (!holds) {
            throw new NoSuchElementException();
        }
    }

    @Override
    public String toString() {
        return "day " + day + ", chests " + Arrays.toString(chests);
    }
}
