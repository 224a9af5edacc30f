import java.io.IOException;
import java.lang.management.ManagementFactory;
import java.lang.reflect.Constructor;
import java.lang.reflect.Field;
import java.lang.reflect.Method;
import java.lang.reflect.Modifier;
import java.nio.file.Files;
import java.nio.file.Path;
import java.util.ArrayList;
import java.util.Arrays;
import java.util.List;
import java.util.TreeSet;
import java.util.regex.Matcher;
import java.util.regex.Pattern;

/** The face of the document, rules of LANGUAGE.md that can be seen in the source, and the room a run takes. */
public final class LanguageTests extends Checks {
    private static final Path SOURCE = Path.of("src/main/java/GumHall.java");
    private static final Path DOCUMENT = Path.of("../shared/DOC.md");
    private static int wrong = 0;

    private static void check(boolean holds, String rule) {
        if (holds) return;
        wrong++;
        System.out.println("LanguageTests: " + rule);
    }

    public static void main(String[] args) throws IOException {
        faceIsTheDocuments();
        membersAreClosed();
        wordsAreAllowed();
        methodsAreShort();
        roomIsSmall();
        nothingThrows();
        System.out.println("LanguageTests: " + wrong + " rules broken");
        if (wrong != 0) System.exit(1);
    }

    private static void faceIsTheDocuments() throws IOException {
        TreeSet<String> due = new TreeSet<>();
        Matcher line = Pattern.compile("    public (int|long) (\\w+)\\((.*)\\);").matcher(Files.readString(DOCUMENT));
        while (line.find()) due.add(line.group(1) + " " + line.group(2) + " " + line.group(3).replaceAll(" \\w+(,|$)", "$1"));
        TreeSet<String> there = new TreeSet<>();
        for (Method m : GumHall.class.getDeclaredMethods()) {
            if (!Modifier.isPublic(m.getModifiers())) continue;
            List<String> types = new ArrayList<>();
            for (Class<?> type : m.getParameterTypes()) types.add(type.getName());
            there.add(m.getReturnType().getName() + " " + m.getName() + " " + String.join(", ", types));
        }
        check(due.size() == 35, "the document's face has 35 methods, read " + due.size());
        check(due.equals(there), "face: due " + due + ", there " + there);
        check(Modifier.isFinal(GumHall.class.getModifiers()), "the class is final");
    }

    private static void membersAreClosed() {
        TreeSet<String> openFields = new TreeSet<>();
        for (Field f : GumHall.class.getDeclaredFields()) {
            if (!Modifier.isPrivate(f.getModifiers())) openFields.add(f.getName());
            boolean isFixed = !Modifier.isStatic(f.getModifiers()) || Modifier.isFinal(f.getModifiers());
            check(isFixed, "static field " + f.getName() + " is not final");
        }
        check(openFields.equals(new TreeSet<>(List.of("UNKNOWN", "OUTSIDE", "STATE", "FULL", "NONE", "LOST"))),
            "open fields " + openFields);
        TreeSet<String> face = new TreeSet<>();
        for (Method m : GumHall.class.getDeclaredMethods()) if (Modifier.isPublic(m.getModifiers())) face.add(m.getName());
        for (Method m : GumHall.class.getDeclaredMethods()) {
            boolean isOpen = Modifier.isPublic(m.getModifiers());
            check(isOpen || Modifier.isPrivate(m.getModifiers()), m.getName() + " is neither public nor private");
            check(isOpen || !face.contains(m.getName()), "private method bears the public name " + m.getName());
        }
        Constructor<?>[] constructors = GumHall.class.getDeclaredConstructors();
        check(constructors.length == 1 && constructors[0].getParameterCount() == 0, "one constructor without parameters");
        Class<?>[] inside = GumHall.class.getDeclaredClasses();
        check(inside.length < 12, inside.length + " classes inside");
        for (Class<?> c : inside) {
            int open = Modifier.PUBLIC | Modifier.PROTECTED;
            check(Modifier.isStatic(c.getModifiers()) && (c.getModifiers() & open) == 0, c + " is open or not static");
            for (Method m : c.getDeclaredMethods()) {
                check(!face.contains(m.getName()), c + " has a method of the face's name " + m.getName());
            }
        }
    }

    /** The source without comments, texts and signs. */
    private static String bareSource() throws IOException {
        return Files.readString(SOURCE)
            .replaceAll("(?s)/\\*.*?\\*/", "")
            .replaceAll("//[^\n]*", "")
            .replaceAll("'[^']*'", "' '")
            .replaceAll("\"[^\"]*\"", "\"\"");
    }

    private static void wordsAreAllowed() throws IOException {
        String source = bareSource();
        String[] banned = {
            "\\bthrow\\b", "\\bthrows\\b", "\\btry\\b", "\\bcatch\\b", "\\bfinally\\b", "\\bsynchronized\\b",
            "\\bassert\\b", "->", "::", "@", "Exact\\b", "\\bpackage\\b", "\\bprotected\\b", "\\bvolatile\\b",
            "\\bnative\\b", "\\bvar\\b", "\\bObject\\b", "static \\{", "\\bhashCode\\b", "\\btoString\\b",
        };
        for (String word : banned) check(!Pattern.compile(word).matcher(source).find(), "source has " + word);
        found(source, "import ([\\w.*]+);", List.of("java.util.Arrays"));
        found(source, "\\bMath\\.(\\w+)", List.of("abs", "max", "min"));
        found(source, "\\bArrays\\.(\\w+)", List.of("fill"));
        found(source, "\\bSystem\\.(\\w+)", List.of("arraycopy"));
        check(Files.readString(SOURCE).chars().allMatch(c -> c < 127), "source has a sign beyond 126");
    }

    private static void found(String source, String what, List<String> allowed) {
        Matcher m = Pattern.compile(what).matcher(source);
        while (m.find()) check(allowed.contains(m.group(1)), "source has " + m.group());
    }

    private static void methodsAreShort() throws IOException {
        Matcher head = Pattern.compile("(?m)^( +)(?=\\S)(?!return|else|new)[\\w\\[\\] ]+ (\\w+)\\(([^()]*)\\) \\{$").matcher(bareSource());
        String source = bareSource();
        int seen = 0;
        while (head.find()) {
            seen++;
            int end = source.indexOf("\n" + head.group(1) + "}", head.end());
            long lines = source.substring(head.start(), end).lines().count() + 1;
            check(lines <= 60, head.group(2) + " has " + lines + " lines");
            check(head.group(3).split(",").length <= 7, head.group(2) + " has more than seven parameters");
        }
        check(seen > 60, "read only " + seen + " methods");
    }

    /** Each call with all rows of near and far numbers, in each state. */
    private static void nothingThrows() {
        for (Method m : GumHall.class.getDeclaredMethods()) {
            if (!Modifier.isPublic(m.getModifiers())) continue;
            for (Build state : new Build[] {NEW, NO_HALL, BUSY, FULL_HALL}) sweep(m, state);
        }
    }

    private static void sweep(Method m, Build state) {
        int[] numbers = {MIN, MIN + 1, -1, 0, 1, 5, 39, 60, MAX - 2, MAX};
        int params = m.getParameterCount();
        int rows = (int) Math.pow(numbers.length, params);
        GumHall x = null;
        for (int row = 0; row < rows; row++) {
            // An object is used for 512 calls at most.
            if (row % 300 == 0) x = made(state);
            Object[] arguments = new Object[params];
            for (int i = 0, rest = row; i < params; i++, rest /= numbers.length) arguments[i] = numbers[rest % numbers.length];
            try {
                m.invoke(x, arguments);
            } catch (ReflectiveOperationException e) {
                check(false, m.getName() + Arrays.toString(arguments) + " threw " + e.getCause());
                return;
            }
        }
    }

    /** All calls of many runs live in one room, so a call that only asks makes nothing. */
    private static void roomIsSmall() {
        if (!(ManagementFactory.getThreadMXBean() instanceof com.sun.management.ThreadMXBean threads)) return;
        GumHall x = new GumHall();
        String text = "h6;s0;f1;b2;s3;f0";
        x.sheet(0, 0, text.length());
        for (int i = 0; i < text.length(); i++) x.put(0, i, text.charAt(i));
        x.hall(0, 0, 0, text.length());
        for (int k = 0; k < 24; k++) x.sit(k % 5, k % 6, k);
        for (int k = 0; k < 6; k++) x.move(k, 5 - k, 6 * k);
        for (int k = 0; k < 6; k++) x.scrape(k, 3 * k);
        for (int k = 0; k < 8; k++) x.reading(k % 6, 39, 9, 9);
        long least = Long.MAX_VALUE;
        for (int round = 0; round < 3; round++) {
            long before = threads.getThreadAllocatedBytes(Thread.currentThread().getId());
            askAll(x, text.length());
            least = Math.min(least, threads.getThreadAllocatedBytes(Thread.currentThread().getId()) - before);
        }
        // Five persons a hall, forty halls; the rest is for the measuring.
        check(least < 40 * 5 * 16 + 4000, "a round of calls made " + least + " bytes of objects");
    }

    private static void askAll(GumHall x, int textLength) {
        for (int night = 0; night < 40; night++) {
            for (int place = 0; place < 6; place++) {
                x.layers(place, night);
                x.under(place, night, 0, 0);
                x.chair(place, night);
                x.sat(place, night);
                x.odds(place, night, 2, 1);
            }
            x.moved(night);
            x.scraped(night);
            x.never();
            x.look(night, 39, 0);
            x.makers(0, night);
            x.habit(night % 5, 0);
            x.beside(0, 1);
            x.tell(night % 5);
            x.greet(night % 5);
            x.sheet(1, 2, 60);
            x.put(1, 5, 1);
            x.copy(1, 0, 1, 1, 50);
            x.judge(1, 2, 0, 20);
        }
        for (int k = 0; k < 40; k++) x.hall(0, 0, 0, textLength);
    }
}
