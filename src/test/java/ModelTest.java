import java.lang.reflect.InvocationTargetException;
import java.lang.reflect.Method;
import java.math.BigInteger;
import java.nio.charset.StandardCharsets;
import java.util.ArrayDeque;
import java.util.ArrayList;
import java.util.Arrays;
import java.util.Deque;
import java.util.HashMap;
import java.util.HashSet;
import java.util.List;
import java.util.Map;
import java.util.NoSuchElementException;
import java.util.Random;
import java.util.Set;
import java.util.TreeSet;

/**
 * Makes the same calls, chosen by chance from fixed seeds, on a BrassYear and on a model of the document that
 * goes day by day and tries every case, and tells every answer in which they differ. Ahead of that, it tells both
 * every text that is one token or one line away from two sound ones.
 */
public final class ModelTest {
    private static final int RUNS = Integer.getInteger("runs", 1500);
    private static final int CALLS = 300;
    private static int wrong = 0;
    private static int calls = 0;

    public static void main(String[] args) throws Exception {
        for (String text : SOUND) {
            everyToken(text.split(" "));
            everyLine(text.split(" ; "));
        }
        System.out.println(texts + " texts one token or line away from a sound one compared with the model, " + wrong
                + " differ; by faults, 0 to 7: " + Arrays.toString(textsByFault));
        for (int each : textsByFault) {
            wrong += each < 30 ? 1 : 0;
        }
        for (int run = 0; run < RUNS && wrong < 20; run++) {
            oneRun(run);
        }
        System.out.println(calls + " calls compared with the model, " + wrong + " differ");
        if (wrong != 0) {
            System.exit(1);
        }
    }

    /** Every sort of line; the second has as many lines, teeth gone and wheels of a feast as there is room for. */
    private static final String[] SOUND = {
        "brass oil 5 slips 5 ; wheel a planet teeth 9 by 1 at 0 ; wheel b moon teeth 9 by 1 at 0 ; gone a 1 ; feast f a at 1 ,"
                + " b at 2 ; work k takes 1 worth 1 by f ; sky f every 1 from 1 ; suspect b ; jerked day 1 ; smooth day 2",
        "brass oil 0 slips 0 ; wheel a bead teeth 4 by 3 at 3 ; wheel b moon teeth 5 by 4 at 0 ; wheel c thimble teeth 60 by 9"
                + " at 59 ; wheel d planet teeth 4 by 1 at 0 ; wheel e moon teeth 4 by 1 at 0 ; gone a 3 ; gone a 0 ; suspect e ;"
                + " jerked day 1 ; smooth day 9 ; smooth day 99 ; jerked day 3 ; jerked day 4 ; feast f a at 3 , b at 0 , c at 0 ,"
                + " d at 0 , e at 3 ; feast g c at 59 ; feast h a at 0 ; feast i b at 4 ; sky f every 400 from 400 ;"
                + " work k takes 99 worth 99 by f ; work l takes 1 worth 0 by g ; work m takes 1 worth 1 by f ;"
                + " work n takes 1 worth 1 by i"};
    private static final String[] TOKENS = ("brass wheel gone feast work sky suspect jerked smooth oil slips planet moon thimble bead"
            + " teeth by at takes worth every from day a b c e f g k zz abcdefgh abcdefghi 0 1 2 3 4 5 8 9 10 59 60 61 99 100 101"
            + " 400 401 999 0001 1000 ; , ? A").split(" ");
    private static final String[] LINES = {"gone a 2", "gone b 1", "gone e 1", "gone d 1 ; gone d 2 ; gone d 3", "suspect a",
        "suspect b", "wheel z planet teeth 5 by 1 at 0", "feast z a at 1", "work z takes 1 worth 1 by f", "sky g every 1 from 1",
        "jerked day 5", "smooth day 50"};
    private static int texts = 0;
    private static final int[] textsByFault = new int[8];

    /** Leaves each token out, ends the text ahead of it, puts each other token in its place, and ahead of it. */
    private static void everyToken(String[] sound) {
        if (Tapes.tell(new BrassYear(), String.join(" ", sound)) < 1) {
            wrong++;
            System.out.println("a text has a fault that should have none: " + String.join(" ", sound));
        }
        for (int i = 0; i <= sound.length; i++) {
            String ahead = String.join(" ", Arrays.copyOf(sound, i)) + " ";
            String from = String.join(" ", Arrays.copyOfRange(sound, i, sound.length));
            String behind = i == sound.length ? "" : String.join(" ", Arrays.copyOfRange(sound, i + 1, sound.length));
            compareText(ahead);
            compareText(ahead + behind);
            for (String token : TOKENS) {
                compareText(ahead + token + " " + behind);
                compareText(ahead + token + " " + from);
            }
        }
    }

    /** Puts each line of the text, and others, ahead of each line once more, and moves each line to each place. */
    private static void everyLine(String[] sound) {
        for (int i = 0; i <= sound.length; i++) {
            for (String line : LINES) {
                compareText(withLine(List.of(sound), i, line));
            }
            for (int k = 0; k < sound.length; k++) {
                compareText(withLine(List.of(sound), i, sound[k]));
                List<String> others = new ArrayList<>(List.of(sound));
                others.remove(k);
                compareText(withLine(others, Math.min(i, others.size()), sound[k]));
            }
        }
    }

    private static String withLine(List<String> lines, int at, String line) {
        List<String> more = new ArrayList<>(lines);
        more.add(at, line);
        return String.join(";", more);
    }

    private static void compareText(String text) {
        BrassYear x = new BrassYear();
        Model model = new Model();
        Tapes.tell(x, text);
        model.tape = text.getBytes(StandardCharsets.ISO_8859_1);
        model.orrery(text.length());
        StringBuilder got = new StringBuilder();
        StringBuilder due = new StringBuilder();
        got.append(x.trouble()).append(' ').append(x.fault()).append(' ').append(x.where());
        due.append(model.trouble()).append(' ').append(model.fault()).append(' ').append(model.where());
        for (int what = 0; what <= 10; what++) {
            got.append(' ').append(x.size(what));
            due.append(' ').append(model.size(what));
        }
        texts++;
        textsByFault[model.fault()]++;
        if (!got.toString().equals(due.toString()) && ++wrong < 20) {
            System.out.println("text '" + text + "': trouble, fault, where and sizes are " + got + ", due are " + due);
        }
    }

    private static void oneRun(int run) throws Exception {
        Random random = new Random(run);
        BrassYear x = new BrassYear();
        Model model = new Model();
        List<String> told = new ArrayList<>();
        int left = CALLS;
        while (left > 0) {
            if (model.o == null || random.nextInt(60) == 0) {
                String text = Text.byChance(random);
                byte[] bytes = text.getBytes(StandardCharsets.ISO_8859_1);
                told.add("TEXT " + text);
                for (int i = 0; i < bytes.length; i += 20) {
                    Object[] numbers = new Object[5];
                    for (int k = 0; k < 5; k++) {
                        numbers[k] = Tapes.word(bytes, i + 4 * k);
                    }
                    compare(run, x, model, "feed", numbers, told);
                    left--;
                }
                compare(run, x, model, "orrery", new Object[] {bytes.length}, told);
                compare(run, x, model, "fault", new Object[0], told);
                compare(run, x, model, "where", new Object[0], told);
                left -= 3;
            } else {
                String name = CALL_NAMES[random.nextInt(CALL_NAMES.length)];
                compare(run, x, model, name, arguments(name, random, model), told);
                left--;
            }
            if (random.nextInt(3) > 0) {
                compare(run, x, model, "trouble", new Object[0], told);
                left--;
            }
        }
    }

    private static final String[] CALL_NAMES = {
        "orrery", "fault", "where", "wheel", "isGone", "now", "work", "toothIn", "jerks", "comesRound", "idle", "next",
        "often", "meet", "soonest", "longestGap", "setFor", "byFor", "byIn", "settings", "lineWorth", "lineAt",
        "inTime", "agree", "drift", "fits", "fitAt", "look", "lookLeaves", "judge", "value", "moves", "likely",
        "jerkMean", "years", "yearFeasts", "slips", "turn", "turnBack", "oil", "set", "undo", "image", "back", "led",
        "size", "turn", "turn", "turn", "turnBack", "set", "set", "undo", "turn", "turn", "turn", "oil"};

    private static Object[] arguments(String name, Random r, Model m) {
        int wheels = m.o == null ? 2 : m.o.wheels.size();
        int feasts = m.o == null ? 2 : m.o.feasts.size();
        int works = m.o == null ? 2 : m.o.works.size();
        int w = near(r, wheels);
        int f = near(r, feasts);
        int teeth = m.o != null && w >= 0 && w < wheels ? m.o.wheels.get(w).teeth : 6;
        switch (name) {
            case "orrery":
                return new Object[] {r.nextInt(8) == 0 ? 0 : r.nextBoolean() ? -1 - r.nextInt(3) : 901 + r.nextInt(3)};
            case "wheel":
                return new Object[] {w, near(r, 6)};
            case "isGone":
            case "set":
                return new Object[] {w, near(r, teeth)};
            case "now":
                return new Object[] {near(r, 4)};
            case "work":
                return new Object[] {near(r, works), near(r, 3)};
            case "toothIn":
                return new Object[] {w, upTo(r, 0, 1000000)};
            case "jerks":
                return new Object[] {w, upTo(r, 0, 5000)};
            case "comesRound":
            case "idle":
                return new Object[] {w};
            case "next":
            case "longestGap":
            case "agree":
            case "drift":
                return new Object[] {f};
            case "often":
                return new Object[] {f, upTo(r, 0, 5000)};
            case "meet":
                return new Object[] {f, near(r, feasts)};
            case "setFor":
                return new Object[] {w, f, r.nextBoolean() ? 1 + r.nextInt(12) : upTo(r, 1, 5000)};
            case "byFor":
            case "byIn":
                return new Object[] {w, f};
            case "settings":
                return new Object[] {f, upTo(r, 1, 5000)};
            case "lineAt":
                return new Object[] {near(r, works)};
            case "fitAt":
                return new Object[] {r.nextInt(4) == 0 ? near(r, 60) : near(r, 4)};
            case "judge":
                return new Object[] {near(r, m.o == null || m.o.suspect < 0 ? 5 : m.o.wheels.get(m.o.suspect).teeth + 1)};
            case "value":
            case "moves":
                return new Object[] {f, near(r, 7)};
            case "likely":
                return new Object[] {w, near(r, teeth), near(r, 7), r.nextBoolean()};
            case "jerkMean":
                return new Object[] {w, near(r, 7), r.nextBoolean()};
            case "years":
                return new Object[] {w, upTo(r, 0, 65536), upTo(r, 0, 400)};
            case "yearFeasts":
                return new Object[] {f, upTo(r, 0, 65536), upTo(r, 0, 400)};
            case "slips":
                return new Object[] {upTo(r, 0, 65536), upTo(r, 0, 400)};
            case "oil":
                return new Object[] {r.nextInt(4) == 0 ? upTo(r, 1, 99) : 1 + r.nextInt(3)};
            case "back":
                return new Object[] {near(r, 3)};
            case "led":
                return new Object[] {near(r, 2)};
            case "size":
                return new Object[] {near(r, 11)};
            default:
                return new Object[0];
        }
    }

    /** Mostly 0 .. count less 1, at times one beside. */
    private static int near(Random r, int count) {
        return r.nextInt(12) == 0 ? r.nextBoolean() ? -1 : count : r.nextInt(Math.max(1, count));
    }

    private static int upTo(Random r, int least, int most) {
        switch (r.nextInt(12)) {
            case 0:
                return least - 1;
            case 1:
                return most + 1;
            case 2:
                return least;
            case 3:
                return most;
            case 4:
            case 5:
            case 6:
                return least + r.nextInt(20);
            default:
                return least + r.nextInt(most - least + 1);
        }
    }

    private static void compare(int run, BrassYear x, Model m, String name, Object[] args, List<String> told)
            throws Exception {
        Object due = answer(m, name, args);
        Object got = answer(x, name, args);
        String call = name + Arrays.toString(args);
        told.add(call + " = " + due);
        calls++;
        if (!due.equals(got)) {
            wrong++;
            System.out.println("run " + run + ": " + call + " answered " + got + ", due is " + due);
            if (wrong == 1) {
                told.forEach(System.out::println);
            }
        }
    }

    private static final Map<String, Method> METHODS = new HashMap<>();

    private static Object answer(Object object, String name, Object[] args) throws Exception {
        Method method = METHODS.get(object.getClass().getName() + name);
        if (method == null) {
            for (Method each : object.getClass().getDeclaredMethods()) {
                if (each.getName().equals(name)) {
                    method = each;
                }
            }
            METHODS.put(object.getClass().getName() + name, method);
        }
        try {
            return method.invoke(object, args);
        } catch (InvocationTargetException e) {
            return "throws." + e.getCause().getClass().getSimpleName();
        }
    }

    /** Texts by chance: most are sound, some have a piece changed. */
    private static final class Text {
        static String byChance(Random r) {
            String text = sound(r);
            if (r.nextInt(3) == 0) {
                text = spoilt(text, r);
            } else if (r.nextInt(15) == 0) {
                text = soup(r);
            }
            return text.length() > 900 ? text.substring(0, 900) : text;
        }

        private static String sound(Random r) {
            List<String> lines = new ArrayList<>();
            lines.add("brass oil " + (r.nextInt(3) == 0 ? r.nextInt(100) : r.nextInt(6)) + " slips " + r.nextInt(101));
            int wheels = 1 + r.nextInt(r.nextInt(4) == 0 ? 5 : 3);
            boolean small = r.nextInt(3) > 0;
            int[] teeth = new int[wheels];
            int[] gone = new int[wheels];
            String[] kinds = {"planet", "moon", "thimble", "bead"};
            for (int w = 0; w < wheels; w++) {
                teeth[w] = 4 + r.nextInt(small ? 5 : 57);
                lines.add("wheel " + name(0, w) + " " + kinds[r.nextInt(4)] + " teeth " + teeth[w] + " by "
                        + (1 + r.nextInt(Math.min(9, teeth[w] - 1))) + " at " + r.nextInt(teeth[w]));
            }
            int suspect = r.nextInt(4) > 0 ? r.nextInt(wheels) : -1;
            Set<String> lost = new HashSet<>();
            for (int i = r.nextInt(6); i > 0; i--) {
                int w = r.nextInt(wheels);
                int tooth = r.nextInt(3) == 0 || gone[w] == 0 ? r.nextInt(teeth[w]) : 0;
                if (w != suspect && gone[w] < 2 && lost.add(w + " " + tooth)) {
                    gone[w]++;
                    lines.add("gone " + name(0, w) + " " + tooth);
                }
            }
            int feasts = r.nextInt(5);
            for (int f = 0; f < feasts; f++) {
                StringBuilder line = new StringBuilder("feast " + name(1, f));
                int count = 1 + r.nextInt(r.nextInt(3) == 0 ? wheels : Math.min(2, wheels));
                int first = r.nextInt(wheels);
                for (int i = 0; i < count; i++) {
                    int w = (first + i) % wheels;
                    line.append(i == 0 ? " " : ",").append(name(0, w)).append(" at ").append(r.nextInt(teeth[w]));
                }
                lines.add(line.toString());
            }
            for (int k = feasts == 0 ? 0 : r.nextInt(5); k > 0; k--) {
                lines.add("work " + name(2, k) + " takes " + (1 + r.nextInt(r.nextInt(4) == 0 ? 99 : 8)) + " worth "
                        + r.nextInt(r.nextBoolean() ? 3 : 100) + " by " + name(1, r.nextInt(feasts)));
            }
            for (int f = 0; f < feasts; f++) {
                if (r.nextBoolean()) {
                    lines.add("sky " + name(1, f) + " every " + (1 + r.nextInt(r.nextBoolean() ? 9 : 400)) + " from "
                            + r.nextInt(r.nextBoolean() ? 9 : 401));
                }
            }
            if (suspect >= 0) {
                lines.add("suspect " + name(0, suspect));
                Set<Integer> days = new HashSet<>();
                for (int i = r.nextInt(6); i > 0; i--) {
                    int day = 1 + r.nextInt(r.nextBoolean() ? 10 : 99);
                    if (days.add(day)) {
                        lines.add((r.nextInt(3) == 0 ? "jerked" : "smooth") + " day " + day);
                    }
                }
            }
            return String.join(r.nextInt(4) == 0 ? " ; " : ";", lines);
        }

        private static String soup(Random r) {
            String[] pieces = {"brass oil 1 slips 2", "wheel wa planet teeth 5 by 1 at 0", ";", ";", ";", ",", "gone wa", "3",
                "feast fa wa at 1", "feast", "fa", "wa", "at", "day 7", "jerked", "smooth day 8", "suspect wa", "sky fa",
                "every 5 from 6", "work ha takes 4 worth 4 by fa", "wheel", "wb", "moon", "teeth", "abcdefgh", "abcdefghi",
                "0", "007", "9999", "?"};
            StringBuilder text = new StringBuilder(r.nextInt(4) == 0 ? "" : "brass oil 5 slips 5;wheel wa bead teeth 6 by 2 at 5;");
            for (int i = r.nextInt(12); i > 0; i--) {
                text.append(pieces[r.nextInt(pieces.length)]).append(r.nextInt(3) == 0 ? " " : r.nextInt(2) == 0 ? ";" : "");
            }
            return text.toString();
        }

        private static String name(int sort, int number) {
            String[] stems = {"w", "planet", "by"};
            return stems[sort] + (char) ('a' + number);
        }

        private static String spoilt(String text, Random r) {
            switch (r.nextInt(9)) {
                case 0:
                    return text.substring(0, r.nextInt(text.length() + 1));
                case 1: {
                    int i = r.nextInt(text.length());
                    String signs = "#A\n\0;, 0a9z\u00ff";
                    return text.substring(0, i) + signs.charAt(r.nextInt(signs.length())) + text.substring(i + 1);
                }
                case 2: {
                    int i = r.nextInt(text.length() + 1);
                    String signs = ";, 0a9z-";
                    return text.substring(0, i) + signs.charAt(r.nextInt(signs.length())) + text.substring(i);
                }
                case 3: {
                    List<String> lines = new ArrayList<>(Arrays.asList(text.split(";")));
                    lines.add(1 + r.nextInt(lines.size()), lines.get(r.nextInt(lines.size())));
                    return String.join(";", lines);
                }
                case 4: {
                    List<String> lines = new ArrayList<>(Arrays.asList(text.split(";")));
                    String line = lines.remove(r.nextInt(lines.size()));
                    lines.add(r.nextInt(lines.size() + 1), line);
                    return String.join(";", lines);
                }
                case 5: {
                    String[] words = text.split(" ");
                    words[r.nextInt(words.length)] = words[r.nextInt(words.length)];
                    return String.join(" ", words);
                }
                case 6:
                case 7: {
                    int[] edges = {0, 1, 3, 4, 5, 8, 9, 10, 59, 60, 61, 99, 100, 101, 400, 401, 999, 1000};
                    String[] parts = text.split("(?<=\\D)(?=\\d)");
                    int i = 1 + r.nextInt(parts.length - 1);
                    parts[i] = parts[i].replaceFirst("\\d+", "" + edges[r.nextInt(edges.length)]);
                    return String.join("", parts);
                }
                default: {
                    StringBuilder more = new StringBuilder(text);
                    String[] lines = {";wheel q planet teeth 5 by 4 at 4", ";gone wa 2", ";feast g wa at 1",
                        ";work h takes 1 worth 1 by planeta", ";suspect wa", ";jerked day 9", ";smooth day 1",
                        ";sky planeta every 1 from 0", ";wheel qq bead teeth 60 by 9 at 59", ";gone wa 3"};
                    for (int i = r.nextInt(6); i >= 0; i--) {
                        more.append(lines[r.nextInt(lines.length)]);
                    }
                    return more.toString();
                }
            }
        }
    }

    private static final class Wheel {
        int kind;
        int teeth;
        int by;
        int first;
        Set<Integer> gone = new TreeSet<>();

        boolean goes(int day, int oil) {
            return kind == 2 ? oil > 0 : kind == 3 ? day % 2 == 0 : true;
        }

        /** The tooth, and 1 if it jerked. */
        int[] go(int tooth, int steps, int way, Set<Integer> lost) {
            int t = Math.floorMod(tooth + way * steps, teeth);
            int jerked = 0;
            while (lost.contains(t)) {
                jerked = 1;
                t = Math.floorMod(t + way, teeth);
            }
            return new int[] {t, jerked};
        }

        int way() {
            return kind == 1 ? -1 : 1;
        }
    }

    private static final class Orrery {
        int oil;
        int slips;
        List<Wheel> wheels = new ArrayList<>();
        List<Map<Integer, Integer>> feasts = new ArrayList<>();
        List<int[]> works = new ArrayList<>();
        Map<Integer, int[]> sky = new HashMap<>();
        int suspect = -1;
        List<int[]> seen = new ArrayList<>();
    }

    private static final class State {
        int day;
        int oil;
        int jerks;
        int[] tops;

        State copy() {
            State s = new State();
            s.day = day;
            s.oil = oil;
            s.jerks = jerks;
            s.tops = tops.clone();
            return s;
        }
    }

    /** Lines as patterns: each slot of a line is looked at when its token comes. */
    private static final class TextModel {
        static final Map<String, String> FORMS = new HashMap<>();

        static {
            FORMS.put("brass", "oil # slips #");
            FORMS.put("wheel", "NEW KIND teeth # by # at #");
            FORMS.put("gone", "WHEEL #");
            FORMS.put("feast", "NEW WHEEL at # *");
            FORMS.put("work", "NEW takes # worth # by FEAST");
            FORMS.put("sky", "FEAST every # from #");
            FORMS.put("suspect", "WHEEL");
            FORMS.put("jerked", "day #");
            FORMS.put("smooth", "day #");
        }

        final Orrery o = new Orrery();
        final Map<String, int[]> names = new HashMap<>();
        final Map<String, Integer> lines = new HashMap<>();
        int fault;
        int place;

        boolean fault(int number, int at, boolean so) {
            if (so && fault == 0) {
                fault = number;
                place = at;
            }
            return fault != 0;
        }

        TextModel(byte[] bytes, int n) {
            List<String> tokens = new ArrayList<>();
            List<Integer> places = new ArrayList<>();
            String text = new String(bytes, 0, n, StandardCharsets.ISO_8859_1);
            java.util.regex.Matcher m = java.util.regex.Pattern.compile("[a-z]+|[0-9]+|[;,]|[^ ]").matcher(text);
            while (m.find()) {
                tokens.add(m.group());
                places.add(m.start());
            }
            tokens.add("END");
            places.add(n);
            int i = 0;
            while (fault == 0) {
                i = line(tokens, places, i);
                if (fault == 0 && tokens.get(i).equals("END")) {
                    fault(6, n, o.wheels.isEmpty());
                    return;
                }
                if (fault == 0 && fault(1, places.get(i), !tokens.get(i).equals(";"))) {
                    return;
                }
                i++;
            }
        }

        private static boolean isName(String token) {
            return token.matches("[a-z]{1,8}") && !FORMS.containsKey(token);
        }

        private int line(List<String> tokens, List<Integer> places, int from) {
            String first = tokens.get(from);
            int at = places.get(from);
            if (fault(1, at, !FORMS.containsKey(first))) {
                return from;
            }
            boolean isBrass = first.equals("brass");
            boolean isSeen = first.equals("jerked") || first.equals("smooth");
            String sort = isSeen ? "seen" : first;
            int told = lines.merge(sort, 1, Integer::sum);
            Map<String, Integer> room = Map.of("wheel", 5, "feast", 4, "work", 4, "seen", 5);
            fault(3, at, told > 1 && (isBrass || first.equals("suspect")));
            fault(5, at, told > room.getOrDefault(sort, 999));
            fault(6, at, !lines.containsKey("brass") || isSeen && o.suspect < 0);
            List<String> form = new ArrayList<>(List.of(FORMS.get(first).split(" ")));
            List<Integer> found = new ArrayList<>();
            int i = from + 1;
            for (int k = 0; k < form.size() && fault == 0; k++) {
                String slot = form.get(k);
                if (slot.equals("*")) {
                    if (tokens.get(i).equals(",")) {
                        form.addAll(List.of("WHEEL", "at", "#", "*"));
                        i++;
                    }
                    continue;
                }
                slot(first, slot, k, tokens.get(i), places.get(i), found);
                i++;
            }
            if (fault == 0) {
                finish(first, found);
            }
            return i;
        }

        private void slot(String line, String slot, int k, String token, int at, List<Integer> found) {
            switch (slot) {
                case "NEW":
                    fault(1, at, !isName(token));
                    fault(3, at, names.containsKey(token));
                    if (fault == 0) {
                        names.put(token, line.equals("wheel") ? new int[] {0, o.wheels.size()}
                                : line.equals("feast") ? new int[] {1, o.feasts.size()} : new int[] {2, o.works.size()});
                    }
                    return;
                case "KIND":
                    found.add(List.of("planet", "moon", "thimble", "bead").indexOf(token));
                    fault(1, at, found.get(found.size() - 1) < 0);
                    return;
                case "WHEEL":
                case "FEAST":
                    fault(1, at, !isName(token));
                    int[] name = names.get(token);
                    if (fault(2, at, name == null || name[0] != (slot.equals("WHEEL") ? 0 : 1))) {
                        return;
                    }
                    named(line, name[1], at, found);
                    found.add(name[1]);
                    return;
                case "#":
                    if (!fault(1, at, !token.matches("[0-9]{1,3}"))) {
                        int number = Integer.parseInt(token);
                        number(line, k, number, at, found);
                        found.add(number);
                    }
                    return;
                default:
                    fault(1, at, !token.equals(slot));
            }
        }

        private void named(String line, int number, int at, List<Integer> found) {
            if (line.equals("gone")) {
                fault(5, at, o.wheels.get(number).gone.size() == 2);
                fault(7, at, o.suspect == number);
            } else if (line.equals("suspect")) {
                fault(7, at, !o.wheels.get(number).gone.isEmpty());
            } else if (line.equals("sky")) {
                fault(3, at, o.sky.containsKey(number));
            } else if (line.equals("feast")) {
                for (int i = 0; i < found.size(); i += 2) {
                    fault(3, at, found.get(i) == number);
                }
            }
        }

        private void number(String line, int k, int number, int at, List<Integer> found) {
            int least = 0;
            int most;
            switch (line) {
                case "brass":
                    most = k == 1 ? 99 : 100;
                    break;
                case "wheel":
                    least = k == 3 ? 4 : k == 5 ? 1 : 0;
                    most = k == 3 ? 60 : k == 5 ? Math.min(9, found.get(1) - 1) : found.get(1) - 1;
                    break;
                case "gone":
                    fault(3, at, o.wheels.get(found.get(0)).gone.contains(number));
                    most = o.wheels.get(found.get(0)).teeth - 1;
                    break;
                case "feast":
                    most = o.wheels.get(found.get(found.size() - 1)).teeth - 1;
                    break;
                case "work":
                    least = k == 2 ? 1 : 0;
                    most = 99;
                    break;
                case "sky":
                    least = k == 2 ? 1 : 0;
                    most = 400;
                    break;
                default:
                    for (int[] seen : o.seen) {
                        fault(3, at, seen[0] == number);
                    }
                    least = 1;
                    most = 99;
            }
            fault(4, at, number < least || number > most);
        }

        private void finish(String line, List<Integer> found) {
            switch (line) {
                case "brass":
                    o.oil = found.get(0);
                    o.slips = found.get(1);
                    return;
                case "wheel":
                    Wheel wheel = new Wheel();
                    wheel.kind = found.get(0);
                    wheel.teeth = found.get(1);
                    wheel.by = found.get(2);
                    wheel.first = found.get(3);
                    o.wheels.add(wheel);
                    return;
                case "gone":
                    o.wheels.get(found.get(0)).gone.add(found.get(1));
                    return;
                case "feast":
                    Map<Integer, Integer> feast = new HashMap<>();
                    for (int i = 0; i < found.size(); i += 2) {
                        feast.put(found.get(i), found.get(i + 1));
                    }
                    o.feasts.add(feast);
                    return;
                case "work":
                    o.works.add(new int[] {found.get(0), found.get(1), found.get(2)});
                    return;
                case "sky":
                    o.sky.put(found.get(0), new int[] {found.get(1), found.get(2)});
                    return;
                case "suspect":
                    o.suspect = found.get(0);
                    return;
                default:
                    o.seen.add(new int[] {found.get(0), line.equals("jerked") ? 1 : 0});
            }
        }
    }

    /** The document, call by call, in the plainest way. */
    private static final class Model {
        byte[] tape = new byte[0];
        Orrery o;
        State s;
        final Deque<State> kept = new ArrayDeque<>();
        final List<State> images = new ArrayList<>();
        int fault;
        int place;
        int trouble;

        int no(int number) {
            trouble = number;
            return -1;
        }

        boolean not(int number) {
            trouble = number;
            return false;
        }

        int ok(int answer) {
            trouble = 0;
            return answer;
        }

        boolean badW(int w) {
            return o == null || w < 0 || w >= o.wheels.size();
        }

        boolean badF(int f) {
            return o == null || f < 0 || f >= o.feasts.size();
        }

        int feed(int a, int b, int c, int d, int e) {
            if (tape.length + 20 > 900) {
                return -1;
            }
            tape = Arrays.copyOf(tape, tape.length + 20);
            int at = tape.length - 20;
            for (int number : new int[] {a, b, c, d, e}) {
                for (int k = 3; k >= 0; k--) {
                    tape[at++] = (byte) (number >>> 8 * k);
                }
            }
            return tape.length;
        }

        int orrery(int n) {
            if (n < 0 || n > tape.length) {
                return no(2);
            }
            TextModel text = new TextModel(tape, n);
            tape = new byte[0];
            fault = text.fault;
            place = text.place;
            if (fault != 0) {
                return no(4);
            }
            o = text.o;
            s = new State();
            s.oil = o.oil;
            s.tops = o.wheels.stream().mapToInt(w -> w.first).toArray();
            kept.clear();
            images.clear();
            return ok(o.wheels.size());
        }

        int fault() {
            return fault;
        }

        int where() {
            return trouble == 4 ? place : -1;
        }

        int trouble() {
            return trouble;
        }

        int wheel(int w, int what) {
            if (badW(w) || what < 0 || what > 5) {
                return no(1);
            }
            Wheel x = o.wheels.get(w);
            int bits = 0;
            for (int f = 0; f < o.feasts.size(); f++) {
                bits += o.feasts.get(f).containsKey(w) ? 1 << f : 0;
            }
            return ok(new int[] {x.kind, x.teeth, x.by, s.tops[w], x.gone.size(), bits}[what]);
        }

        int isGone(int w, int tooth) {
            if (badW(w)) {
                return no(1);
            }
            if (tooth < 0 || tooth >= o.wheels.get(w).teeth) {
                return no(2);
            }
            return ok(o.wheels.get(w).gone.contains(tooth) ? 1 : 0);
        }

        boolean on(int f, State at) {
            for (Map.Entry<Integer, Integer> e : o.feasts.get(f).entrySet()) {
                if (at.tops[e.getKey()] != e.getValue()) {
                    return false;
                }
            }
            return true;
        }

        int now(int what) {
            if (o == null || what < 0 || what > 3) {
                return no(1);
            }
            int bits = 0;
            for (int f = 0; f < o.feasts.size(); f++) {
                bits += on(f, s) ? 1 << f : 0;
            }
            return ok(new int[] {s.day, s.oil, bits, s.jerks}[what]);
        }

        int work(int k, int what) {
            if (o == null || k < 0 || k >= o.works.size() || what < 0 || what > 2) {
                return no(1);
            }
            return ok(o.works.get(k)[what]);
        }

        int turned(State at) {
            int jerked = 0;
            for (int w = 0; w < at.tops.length; w++) {
                Wheel x = o.wheels.get(w);
                if (x.goes(at.day, at.oil)) {
                    int[] gone = x.go(at.tops[w], x.by, x.way(), x.gone);
                    at.tops[w] = gone[0];
                    jerked += gone[1];
                }
            }
            at.day++;
            at.oil = Math.max(0, at.oil - 1);
            at.jerks += jerked;
            return jerked;
        }

        int turnedBack(State at) {
            int jerked = 0;
            at.day--;
            for (int w = 0; w < at.tops.length; w++) {
                Wheel x = o.wheels.get(w);
                if (x.goes(at.day, at.oil)) {
                    int[] gone = x.go(at.tops[w], x.by, -x.way(), x.gone);
                    at.tops[w] = gone[0];
                    jerked += gone[1];
                }
            }
            at.jerks += jerked;
            return jerked;
        }

        int toothIn(int w, int n) {
            if (badW(w)) {
                return no(1);
            }
            if (n < 0 || n > 1000000) {
                return no(2);
            }
            Wheel x = o.wheels.get(w);
            boolean[] lost = new boolean[x.teeth];
            x.gone.forEach(t -> lost[t] = true);
            int tooth = s.tops[w];
            for (int i = 0; i < n; i++) {
                if (x.goes(s.day + i, s.oil - i)) {
                    tooth = (tooth + x.teeth + x.way() * x.by) % x.teeth;
                    while (lost[tooth]) {
                        tooth = (tooth + x.teeth + x.way()) % x.teeth;
                    }
                }
            }
            return ok(tooth);
        }

        int jerks(int w, int n) {
            if (badW(w)) {
                return no(1);
            }
            if (n < 0 || n > 5000) {
                return no(2);
            }
            Wheel x = o.wheels.get(w);
            int tooth = s.tops[w];
            int sum = 0;
            for (int i = 0; i < n; i++) {
                if (x.goes(s.day + i, s.oil - i)) {
                    int[] gone = x.go(tooth, x.by, x.way(), x.gone);
                    tooth = gone[0];
                    sum += gone[1];
                }
            }
            return ok(sum);
        }

        int comesRound(int w) {
            if (badW(w)) {
                return no(1);
            }
            Wheel x = o.wheels.get(w);
            if (x.kind == 2) {
                return s.oil > 0 ? no(5) : ok(1);
            }
            State at = s.copy();
            for (int day = 1; day <= 1000; day++) {
                turned(at);
                if (at.tops[w] == s.tops[w] && (x.kind != 3 || day % 2 == 0)) {
                    return ok(day);
                }
            }
            return ok(-2);
        }

        int idle(int w) {
            if (badW(w)) {
                return no(1);
            }
            Set<Integer> met = new HashSet<>();
            State at = s.copy();
            for (int day = 0; day <= 5000; day++) {
                met.add(at.tops[w]);
                turned(at);
            }
            return ok(o.wheels.get(w).teeth - met.size());
        }

        List<Integer> days(int f, int last) {
            List<Integer> days = new ArrayList<>();
            State at = s.copy();
            for (int day = 1; day <= last; day++) {
                turned(at);
                if (on(f, at)) {
                    days.add(day);
                }
            }
            return days;
        }

        int nextOf(int f) {
            List<Integer> days = days(f, 5000);
            return days.isEmpty() ? -2 : days.get(0);
        }

        int next(int f) {
            return badF(f) ? no(1) : ok(nextOf(f));
        }

        int often(int f, int n) {
            return badF(f) ? no(1) : n < 0 || n > 5000 ? no(2) : ok(days(f, n).size());
        }

        int meet(int f, int g) {
            if (badF(f) || badF(g) || f == g) {
                return no(1);
            }
            List<Integer> both = days(f, 5000);
            both.retainAll(new HashSet<>(days(g, 5000)));
            return ok(both.isEmpty() ? -2 : both.get(0));
        }

        int soonest() {
            if (o == null) {
                return no(1);
            }
            int best = -2;
            for (int f = 0; f < o.feasts.size(); f++) {
                if (nextOf(f) > 0 && (best < 0 || nextOf(f) < nextOf(best))) {
                    best = f;
                }
            }
            return ok(best);
        }

        int longestGap(int f) {
            if (badF(f)) {
                return no(1);
            }
            List<Integer> days = days(f, 5000);
            int gap = -2;
            for (int i = 1; i < days.size(); i++) {
                gap = Math.max(gap, days.get(i) - days.get(i - 1));
            }
            return ok(gap);
        }

        boolean badWF(int w, int f) {
            return badW(w) || badF(f) || !o.feasts.get(f).containsKey(w);
        }

        int[] ends(int w, int n) {
            Wheel x = o.wheels.get(w);
            int[] ends = new int[x.teeth];
            for (int t = 0; t < x.teeth; t++) {
                int tooth = t;
                for (int i = 0; i < n; i++) {
                    if (x.goes(s.day + i, s.oil - i)) {
                        tooth = x.go(tooth, x.by, x.way(), x.gone)[0];
                    }
                }
                ends[t] = tooth;
            }
            return ends;
        }

        int setFor(int w, int f, int n) {
            if (badWF(w, f)) {
                return no(1);
            }
            if (n < 1 || n > 5000) {
                return no(2);
            }
            State at = s.copy();
            for (int i = 0; i < n; i++) {
                turned(at);
            }
            int[] ends = ends(w, n);
            for (int t = 0; t < ends.length; t++) {
                at.tops[w] = ends[t];
                if (!o.wheels.get(w).gone.contains(t) && on(f, at)) {
                    return ok(t);
                }
            }
            return ok(-2);
        }

        int[] by(int w, int f) {
            int told = o.wheels.get(w).by;
            int[] best = {-2, -2};
            for (int by = Math.min(9, o.wheels.get(w).teeth - 1); by >= 1; by--) {
                o.wheels.get(w).by = by;
                int in = nextOf(f);
                if (in > 0 && (best[0] < 0 || in <= best[1])) {
                    best = new int[] {by, in};
                }
            }
            o.wheels.get(w).by = told;
            return best;
        }

        int byFor(int w, int f) {
            return badWF(w, f) ? no(1) : ok(by(w, f)[0]);
        }

        int byIn(int w, int f) {
            return badWF(w, f) ? no(1) : ok(by(w, f)[1]);
        }

        int settings(int f, int n) {
            if (badF(f)) {
                return no(1);
            }
            if (n < 1 || n > 5000) {
                return no(2);
            }
            int all = 1;
            for (Map.Entry<Integer, Integer> e : o.feasts.get(f).entrySet()) {
                int[] ends = ends(e.getKey(), n);
                int count = 0;
                for (int t = 0; t < ends.length; t++) {
                    count += ends[t] == e.getValue() && !o.wheels.get(e.getKey()).gone.contains(t) ? 1 : 0;
                }
                all *= count;
            }
            return ok(all);
        }

        /** Worth, works in time, then the order. */
        List<Integer> bestLine() {
            List<List<Integer>> orders = new ArrayList<>();
            orders(new ArrayList<>(), orders);
            int[] due = o.works.stream().mapToInt(k -> nextOf(k[2])).toArray();
            List<Integer> best = null;
            for (List<Integer> order : orders) {
                int days = 0;
                int worth = 0;
                int bits = 0;
                for (int k : order) {
                    days += o.works.get(k)[0];
                    if (due[k] > 0 && days <= due[k]) {
                        worth += o.works.get(k)[1];
                        bits |= 1 << k;
                    }
                }
                if (best == null || worth > best.get(0)) {
                    best = new ArrayList<>(List.of(worth, bits));
                    best.addAll(order);
                }
            }
            return best;
        }

        void orders(List<Integer> begun, List<List<Integer>> orders) {
            if (begun.size() == o.works.size()) {
                orders.add(new ArrayList<>(begun));
            }
            for (int k = 0; k < o.works.size(); k++) {
                if (!begun.contains(k)) {
                    begun.add(k);
                    orders(begun, orders);
                    begun.remove(begun.size() - 1);
                }
            }
        }

        int lineWorth() {
            return o == null ? no(1) : ok(bestLine().get(0));
        }

        int inTime() {
            return o == null ? no(1) : ok(bestLine().get(1));
        }

        int lineAt(int i) {
            return o == null || i < 0 || i >= o.works.size() ? no(1) : ok(bestLine().get(2 + i));
        }

        boolean sky(int f, int day) {
            int[] sky = o.sky.get(f);
            return day >= sky[1] && (day - sky[1]) % sky[0] == 0;
        }

        int agree(int f) {
            if (badF(f)) {
                return no(1);
            }
            if (!o.sky.containsKey(f)) {
                return no(6);
            }
            State at = s.copy();
            for (int i = 0; i <= 5000; i++) {
                if (on(f, at) && sky(f, at.day)) {
                    return ok(i);
                }
                turned(at);
            }
            return ok(-2);
        }

        int drift(int f) {
            if (badF(f)) {
                return no(1);
            }
            if (!o.sky.containsKey(f)) {
                return no(6);
            }
            int in = nextOf(f);
            if (in < 0) {
                return ok(-2);
            }
            for (int far = 0; ; far++) {
                if (sky(f, s.day + in - far) || sky(f, s.day + in + far)) {
                    return ok(far);
                }
            }
        }

        /** Whether the suspect jerks on each day, 1 .. 99, with that tooth gone. */
        boolean[] jerkDays(int lost) {
            Wheel x = o.wheels.get(o.suspect);
            boolean[] days = new boolean[100];
            int tooth = x.first;
            for (int day = 1; day <= 99; day++) {
                if (x.goes(day - 1, o.oil - day + 1)) {
                    int[] gone = x.go(tooth, x.by, x.way(), Set.of(lost));
                    tooth = gone[0];
                    days[day] = gone[1] == 1;
                }
            }
            return days;
        }

        int against(int lost) {
            boolean[] days = jerkDays(lost);
            for (int i = 0; i < o.seen.size(); i++) {
                if (days[o.seen.get(i)[0]] != (o.seen.get(i)[1] == 1)) {
                    return i;
                }
            }
            return -2;
        }

        List<Integer> fitting() {
            List<Integer> fits = new ArrayList<>();
            for (int t = 0; t <= o.wheels.get(o.suspect).teeth; t++) {
                if (against(t) == -2) {
                    fits.add(t);
                }
            }
            return fits;
        }

        int fits() {
            return o == null ? no(1) : o.suspect < 0 ? no(6) : ok(fitting().size());
        }

        int fitAt(int i) {
            if (o == null) {
                return no(1);
            }
            if (o.suspect < 0) {
                return no(6);
            }
            if (i < 0 || i >= fitting().size()) {
                return no(1);
            }
            int tooth = fitting().get(i);
            return ok(tooth == o.wheels.get(o.suspect).teeth ? -2 : tooth);
        }

        int[] bestLook() {
            int[] best = {-2, -2};
            List<boolean[]> fits = new ArrayList<>();
            fitting().forEach(t -> fits.add(jerkDays(t)));
            for (int day = 99; day >= 1 && !fits.isEmpty(); day--) {
                int jerked = 0;
                for (boolean[] days : fits) {
                    jerked += days[day] ? 1 : 0;
                }
                int left = Math.max(jerked, fits.size() - jerked);
                if (best[0] < 0 || left <= best[1]) {
                    best = new int[] {day, left};
                }
            }
            return best;
        }

        int look() {
            return o == null ? no(1) : o.suspect < 0 ? no(6) : ok(bestLook()[0]);
        }

        int lookLeaves() {
            return o == null ? no(1) : o.suspect < 0 ? no(6) : ok(bestLook()[1]);
        }

        int judge(int tooth) {
            if (o == null) {
                return no(1);
            }
            if (o.suspect < 0) {
                return no(6);
            }
            return tooth < 0 || tooth > o.wheels.get(o.suspect).teeth ? no(2) : ok(against(tooth));
        }

        /** What each move leads to, -1 for one that may not be made. */
        int[] games(int f, int left, boolean debtor, State at) {
            int[] sums = {-1, -1, -1};
            for (int move = 0; move < 3; move++) {
                State then = at.copy();
                if (move == 2 && at.day == 0) {
                    continue;
                }
                if (move == 0) {
                    turned(then);
                } else if (move == 2) {
                    turnedBack(then);
                }
                sums[move] = (on(f, then) ? 1 : 0) + worth(f, left - 1, !debtor, then);
            }
            return sums;
        }

        int worth(int f, int left, boolean debtor, State at) {
            if (left == 0) {
                return 0;
            }
            return debtor ? Arrays.stream(games(f, left, debtor, at)).filter(v -> v >= 0).min().getAsInt()
                    : Arrays.stream(games(f, left, debtor, at)).max().getAsInt();
        }

        int value(int f, int n) {
            return badF(f) ? no(1) : n < 0 || n > 6 ? no(2) : ok(worth(f, n, true, s));
        }

        int moves(int f, int n) {
            if (badF(f)) {
                return no(1);
            }
            if (n < 1 || n > 6) {
                return no(2);
            }
            int[] sums = games(f, n, true, s);
            int best = worth(f, n, true, s);
            return ok(sums[0] == best ? 0 : sums[1] == best ? 1 : 2);
        }

        /** Goes through all ways of slipping; adds to sums[0] the weight of the tooth, to sums[1] that of jerks. */
        void ways(Wheel x, int tooth, int day, int n, BigInteger weight, int jerks, BigInteger[] sums, int wanted) {
            if (weight.signum() == 0) {
                return;
            }
            if (day == n) {
                sums[0] = tooth == wanted ? sums[0].add(weight) : sums[0];
                sums[1] = sums[1].add(weight.multiply(BigInteger.valueOf(jerks)));
                return;
            }
            int[] gone = {tooth, 0};
            if (x.goes(s.day + day, s.oil - day)) {
                gone = x.go(tooth, x.by, x.way(), x.gone);
            }
            int[] slipped = x.go(gone[0], 1, x.way(), x.gone);
            ways(x, gone[0], day + 1, n, weight.multiply(BigInteger.valueOf(100 - o.slips)), jerks + gone[1], sums, wanted);
            ways(x, slipped[0], day + 1, n, weight.multiply(BigInteger.valueOf(o.slips)),
                    jerks + gone[1] + slipped[1], sums, wanted);
        }

        long ratio(int w, int tooth, int n, boolean lower, int which) {
            BigInteger[] sums = {BigInteger.ZERO, BigInteger.ZERO};
            ways(o.wheels.get(w), s.tops[w], 0, n, BigInteger.ONE, 0, sums, tooth);
            BigInteger all = BigInteger.valueOf(100).pow(n);
            BigInteger divisor = all.gcd(sums[which]);
            trouble = 0;
            return (lower ? all : sums[which]).divide(divisor).longValueExact();
        }

        long likely(int w, int tooth, int n, boolean lower) {
            if (badW(w)) {
                return no(1);
            }
            if (tooth < 0 || tooth >= o.wheels.get(w).teeth || n < 0 || n > 6) {
                return no(2);
            }
            return ratio(w, tooth, n, lower, 0);
        }

        long jerkMean(int w, int n, boolean lower) {
            return badW(w) ? no(1) : n < 0 || n > 6 ? no(2) : ratio(w, 0, n, lower, 1);
        }

        /** The tooth of each wheel, then slips, then how often the feast is on. */
        int[] lived(int seed, int n, int f) {
            State at = s.copy();
            int count = at.tops.length;
            int[] sums = new int[count + 2];
            long drawn = seed;
            for (int day = 0; day < n; day++) {
                turned(at);
                for (int w = 0; w < count; w++) {
                    Wheel x = o.wheels.get(w);
                    drawn = (75 * drawn + 74) % 65537;
                    if (drawn % 100 < o.slips) {
                        at.tops[w] = x.go(at.tops[w], 1, x.way(), x.gone)[0];
                        sums[count]++;
                    }
                }
                sums[count + 1] += f >= 0 && on(f, at) ? 1 : 0;
            }
            System.arraycopy(at.tops, 0, sums, 0, count);
            return sums;
        }

        boolean badYear(int seed, int n) {
            return seed < 0 || seed > 65536 || n < 0 || n > 400;
        }

        int years(int w, int seed, int n) {
            return badW(w) ? no(1) : badYear(seed, n) ? no(2) : ok(lived(seed, n, -1)[w]);
        }

        int yearFeasts(int f, int seed, int n) {
            return badF(f) ? no(1) : badYear(seed, n) ? no(2) : ok(lived(seed, n, f)[o.wheels.size() + 1]);
        }

        int slips(int seed, int n) {
            return o == null ? no(1) : badYear(seed, n) ? no(2) : ok(lived(seed, n, -1)[o.wheels.size()]);
        }

        void keep() {
            kept.push(s.copy());
            if (kept.size() > 16) {
                kept.removeLast();
            }
        }

        int turn() {
            if (o == null) {
                return no(1);
            }
            keep();
            return ok(turned(s));
        }

        int turnBack() {
            if (o == null) {
                return no(1);
            }
            if (s.day == 0) {
                return no(5);
            }
            keep();
            return ok(turnedBack(s));
        }

        int oil(int more) {
            if (o == null) {
                return no(1);
            }
            if (more < 1 || more > 99) {
                return no(2);
            }
            if (s.oil == 99) {
                return no(5);
            }
            keep();
            s.oil = Math.min(99, s.oil + more);
            return ok(s.oil);
        }

        boolean set(int w, int tooth) {
            if (badW(w)) {
                return not(1);
            }
            if (tooth < 0 || tooth >= o.wheels.get(w).teeth || o.wheels.get(w).gone.contains(tooth)) {
                return not(2);
            }
            if (s.tops[w] == tooth) {
                return not(5);
            }
            keep();
            s.tops[w] = tooth;
            trouble = 0;
            return true;
        }

        boolean undo() {
            if (kept.isEmpty()) {
                return not(6);
            }
            s = kept.pop();
            trouble = 0;
            return true;
        }

        int image() {
            if (o == null) {
                return no(1);
            }
            if (images.size() == 3) {
                return no(3);
            }
            images.add(s.copy());
            return ok(images.size() - 1);
        }

        boolean back(int image) {
            if (image < 0 || image >= images.size()) {
                return not(1);
            }
            s = images.get(image).copy();
            kept.clear();
            trouble = 0;
            return true;
        }

        int led(int i) {
            List<Integer> led = new ArrayList<>();
            for (int f = 0; o != null && f < o.feasts.size(); f++) {
                if (on(f, s)) {
                    led.add(f);
                }
            }
            if (i < 0 || i >= led.size()) {
                throw new NoSuchElementException();
            }
            return led.get(i);
        }

        int size(int what) {
            if (what < 0 || what > 10) {
                return -1;
            }
            if (what == 10) {
                return tape.length;
            }
            if (o == null) {
                return 0;
            }
            int gone = o.wheels.stream().mapToInt(w -> w.gone.size()).sum();
            return new int[] {o.slips, o.wheels.size(), gone, o.feasts.size(), o.works.size(), o.sky.size(),
                o.suspect < 0 ? 0 : 1, o.seen.size(), kept.size(), images.size()}[what];
        }
    }
}
