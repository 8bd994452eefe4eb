import java.lang.reflect.InvocationTargetException;
import java.lang.reflect.Method;
import java.lang.reflect.Modifier;
import java.util.ArrayList;
import java.util.Arrays;
import java.util.Comparator;
import java.util.List;
import java.util.Random;

/** Runs of up to 512 calls, drawn by fixed seeds, on LastAsked and on Model side by side. */
public final class RandomTest {
    private static final int RUNS = 1500;
    private static final int CALLS = 512;
    private static final String[] NAMES = {"a", "b", "ann", "bob", "hour", "has", "x", "plain", "zzzzzzzz"};
    private static final String[] KINDS = {"plain", "plain", "plain", "shut", "walled", "doctor"};
    private static final String[] ODD = {"", ";", "city", "cat", "person", "near", "1000", "abcdefghi", "A", "0", "100",
        "101", "4", "at", "give", "went", "x", "\t", "\u00e9", "12a", "a1", "heard", "asked", "99", "?"};

    private final Random random;
    private final List<Method> methods = new ArrayList<>();
    private final List<String> told = new ArrayList<>();
    private int wrong = 0;
    private int cities = 0;

    private RandomTest(long seed) {
        random = new Random(seed);
        for (Method m : LastAsked.class.getDeclaredMethods()) {
            boolean wanted = Modifier.isPublic(m.getModifiers()) && !m.getName().equals("feed")
                && !m.getName().equals("city") && !m.getName().equals("trouble");
            if (wanted) {
                methods.add(m);
            }
        }
        methods.sort(Comparator.comparing(Method::getName));
    }

    private String pick(String[] from) {
        return from[random.nextInt(from.length)];
    }

    private int whole(int most) {
        int sort = random.nextInt(6);
        return sort == 0 ? 0 : sort == 1 ? most : random.nextInt(most + 1);
    }

    /** A CITY's text that mostly has no FAULT. */
    private List<String> text() {
        List<String> words = new ArrayList<>();
        int hour = whole(random.nextBoolean() ? 99 : 8);
        words.addAll(List.of("city", "hour", "" + hour, "gives", "" + whole(9)));
        int people = 1 + random.nextInt(6);
        List<String> names = new ArrayList<>(Arrays.asList(NAMES));
        java.util.Collections.shuffle(names, random);
        names = names.subList(0, people);
        boolean kinds = random.nextInt(3) != 0;
        boolean poor = random.nextInt(4) == 0;
        int[] kind = new int[people];
        for (int p = 0; p < people; p++) {
            String k = kinds ? pick(KINDS) : "plain";
            kind[p] = List.of("plain", "shut", "walled", "doctor").indexOf(k);
            words.addAll(List.of(";", "person", names.get(p), k, "has", "" + whole(poor ? 3 : 99), "dies", "" + whole(100)));
        }
        boolean[][] near = new boolean[people][people];
        addNears(words, names, near);
        addAsks(words, names, kind, near, hour);
        int wents = random.nextInt(4);
        List<Integer> order = new ArrayList<>();
        for (int p = 0; p < people; p++) {
            order.add(p);
        }
        java.util.Collections.shuffle(order, random);
        for (int i = 0; i < wents && i < people; i++) {
            int to = random.nextInt(people + 1);
            if (to != order.get(i)) {
                words.addAll(List.of(";", "went", names.get(order.get(i)), to == people ? "cat" : names.get(to)));
            }
        }
        return words;
    }

    private void addNears(List<String> words, List<String> names, boolean[][] near) {
        int people = names.size();
        int left = random.nextInt(10);
        for (int tries = 0; tries < 40 && left > 0; tries++) {
            int p = random.nextInt(people);
            int q = random.nextInt(people);
            if (p != q && !near[p][q]) {
                near[p][q] = true;
                near[q][p] = true;
                left--;
                words.addAll(List.of(";", "near", names.get(p), names.get(q)));
            }
        }
    }

    private void addAsks(List<String> words, List<String> names, int[] kind, boolean[][] near, int hour) {
        int people = names.size();
        boolean[][] asked = new boolean[people][people];
        int left = random.nextInt(13);
        int heard = random.nextInt(4);
        for (int tries = 0; tries < 60 && left + heard > 0; tries++) {
            int p = random.nextInt(people);
            int q = random.nextInt(people);
            boolean can = p != q && !asked[p][q] && kind[p] != 3 && kind[q] != 1 && (kind[q] != 2 || near[p][q]);
            if (!can) {
                continue;
            }
            asked[p][q] = true;
            if (heard > 0) {
                heard--;
                words.addAll(List.of(";", "heard", names.get(p), names.get(q), "at", "" + whole(hour), "give", "" + whole(3)));
            } else {
                left--;
                words.addAll(List.of(";", "asked", names.get(p), names.get(q), "at", "" + whole(hour)));
            }
        }
    }

    private String broken(List<String> words) {
        List<String> list = new ArrayList<>(words);
        int times = 1 + random.nextInt(2);
        for (int i = 0; i < times; i++) {
            int at = random.nextInt(list.size());
            switch (random.nextInt(6)) {
                case 0 -> list.set(at, pick(ODD));
                case 1 -> list.remove(at);
                case 2 -> list.add(at, pick(ODD));
                case 3 -> list.set(at, list.get(random.nextInt(list.size())));
                case 4 -> list.addAll(List.of(";", pick(new String[] {"near", "asked", "heard", "went", "person", "city"}),
                    pick(NAMES), pick(NAMES), "at", "3"));
                default -> {
                    int end = Math.min(list.size(), at + 1 + random.nextInt(9));
                    list.addAll(new ArrayList<>(list.subList(at, end)));
                }
            }
            if (list.isEmpty()) {
                list.add("city");
            }
        }
        return joined(list);
    }

    private String joined(List<String> list) {
        StringBuilder text = new StringBuilder();
        for (String word : list) {
            boolean tight = word.equals(";") || text.length() == 0 || text.charAt(text.length() - 1) == ';';
            if (!tight || random.nextInt(30) == 0) {
                text.append(" ");
            }
            text.append(word);
        }
        return text.toString();
    }

    private void newCity(LastAsked x, Model m) {
        List<String> words = text();
        String text = random.nextInt(3) == 0 ? broken(words) : joined(words);
        if (random.nextInt(40) == 0) {
            text = text + " ".repeat(random.nextInt(900));
        }
        int[] numbers = Due.numbers(text);
        for (int i = 0; i < numbers.length; i += 5) {
            int got = x.feed(numbers[i], numbers[i + 1], numbers[i + 2], numbers[i + 3], numbers[i + 4]);
            int due = m.feed(numbers[i], numbers[i + 1], numbers[i + 2], numbers[i + 3], numbers[i + 4]);
            compare("feed of '" + text + "'", got, due);
        }
        int n = random.nextInt(12) == 0 ? random.nextInt(text.length() + 2) - 1 : text.length();
        if (random.nextInt(20) == 0) {
            n = numbers.length * 4 + random.nextInt(3) - 1;
        }
        told.add("'" + text + "'");
        Object got = x.city(n);
        compare("city(" + n + ")", got, m.city(n));
        cities += (Integer) got > 0 ? 1 : 0;
        compare("trouble()", x.trouble(), m.trouble());
        compare("fault()", x.fault(), m.fault());
        compare("where()", x.where(), m.where());
    }

    private void compare(String call, Object got, Object due) {
        told.add(call + " " + got);
        if (!got.equals(due)) {
            wrong++;
            if (wrong <= 5) {
                System.out.println(call + " answered " + got + ", due is " + due + " in this run:");
                System.out.println(String.join("\n", told));
            }
        }
    }

    private Object argument(Method method, int i) {
        Class<?> type = method.getParameterTypes()[i];
        if (type == boolean.class) {
            return random.nextBoolean();
        }
        String name = method.getName();
        if (random.nextInt(60) == 0) {
            return new int[] {Integer.MIN_VALUE, Integer.MAX_VALUE, -1, -2, 6, 7, 64, 1 << 31, 595}[random.nextInt(9)];
        }
        boolean isSet = name.equals("goesTo") && i == 1 || name.equals("hasThen") && i == 1 || name.equals("catThen");
        boolean isSeed = name.equals("nights") && i == 1 || name.equals("seed")
            || i == 0 && (name.equals("lives") || name.equals("firstCat"));
        boolean isNights = name.equals("nights") || name.equals("lives") || name.equals("firstCat");
        if (isSet) {
            return random.nextInt(random.nextBoolean() ? 64 : 8);
        }
        if (isSeed) {
            return random.nextInt(20) == 0 ? 65535 + random.nextInt(3) : random.nextInt(65537);
        }
        if (isNights && (i == 2 || !name.equals("nights"))) {
            return random.nextInt(10) == 0 ? 58 + random.nextInt(4) : random.nextInt(5);
        }
        if (name.equals("odds") && i == 1) {
            return random.nextInt(20) == 0 ? 593 + random.nextInt(3) : random.nextInt(120);
        }
        if (name.startsWith("tour") && i == 1) {
            return random.nextInt(14);
        }
        if (name.startsWith("best") && i == 1) {
            return random.nextInt(5);
        }
        boolean isShame = name.equals("begs") || name.startsWith("rest");
        return random.nextInt(isShame ? 11 : name.equals("size") ? 14 : name.equals("fitAt") && i == 0 ? 12 : 7);
    }

    private Object answer(Object on, Method method, Object[] args) throws IllegalAccessException {
        try {
            return method.invoke(on, args);
        } catch (InvocationTargetException e) {
            return "throws." + e.getCause().getClass().getSimpleName();
        }
    }

    private void run(int number) throws ReflectiveOperationException {
        LastAsked x = new LastAsked();
        Model m = new Model();
        told.clear();
        int calls = 0;
        boolean early = random.nextInt(20) == 0;
        // Acts are rare in half of the runs, so that people live on.
        boolean calm = random.nextBoolean();
        while (calls < CALLS && wrong <= 5) {
            if (!early && (calls == 0 || random.nextInt(150) == 0)) {
                newCity(x, m);
                calls += 50;
            }
            early = early && random.nextInt(20) != 0;
            Method method = methods.get(random.nextInt(methods.size()));
            String name = method.getName();
            if (calm && (name.equals("die") || name.equals("night")) && random.nextInt(8) != 0) {
                continue;
            }
            if (name.equals("bestMean") && random.nextInt(3) != 0) {
                continue;
            }
            Object[] args = new Object[method.getParameterCount()];
            for (int i = 0; i < args.length; i++) {
                args[i] = argument(method, i);
            }
            Object got = answer(x, method, args);
            Object due = answer(m, Model.class.getMethod(name, method.getParameterTypes()), args);
            compare(name + Arrays.toString(args), got, due);
            compare("trouble()", x.trouble(), m.trouble());
            calls += 2;
        }
    }

    public static void main(String[] args) throws ReflectiveOperationException {
        int runs = args.length > 0 ? Integer.parseInt(args[0]) : RUNS;
        RandomTest test = new RandomTest(args.length > 1 ? Long.parseLong(args[1]) : 20261118);
        for (int i = 0; i < runs && test.wrong <= 5; i++) {
            test.run(i);
        }
        System.out.println(runs + " runs, " + test.cities + " cities, " + test.wrong + " answers not as due");
        if (test.wrong != 0 || test.cities == 0) {
            System.exit(1);
        }
    }
}
