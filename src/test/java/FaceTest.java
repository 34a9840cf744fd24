import java.io.IOException;
import java.lang.reflect.Constructor;
import java.lang.reflect.Field;
import java.lang.reflect.Method;
import java.lang.reflect.Modifier;
import java.nio.file.Files;
import java.nio.file.Path;
import java.util.ArrayList;
import java.util.Arrays;
import java.util.List;
import java.util.Set;
import java.util.TreeSet;
import java.util.regex.Matcher;
import java.util.regex.Pattern;

/** The public face of the document and no more, and the plainest rules of the language. */
public final class FaceTest {
    private static final Set<String> FACE = Set.of(
            "public static final int PinBarrels.NONE", "public PinBarrels()",
            "public int PinBarrels.order(int,int,int,int)", "public boolean PinBarrels.cut(int)",
            "public int PinBarrels.act(int,int,int,int)", "public int PinBarrels.run(int)",
            "public boolean PinBarrels.back()", "public int PinBarrels.look(int,int)",
            "public long PinBarrels.cell(int,int)", "public int PinBarrels.sort(int)",
            "public int PinBarrels.count(int)");
    private static final Pattern LEFT_OUT = Pattern.compile(
            "\\b(throw|throws|try|catch|finally|synchronized|assert|import|native|protected|volatile|"
                    + "Object|Float|Double|System\\.(?!arraycopy\\b)\\w+|\\w+Exact)\\b|->|::|@");
    private static final int MOST_CLASSES = 12;
    private static final int MOST_FIELDS = 20;
    private static final int MOST_PARAMETERS = 7;
    private static final int MOST_LINES = 60;
    private static final Path SOURCE = Path.of("src/main/java/PinBarrels.java");

    public static void main(String[] args) throws IOException {
        boolean faceIsDue = faceIsDue();
        boolean wordsAreDue = wordsAreDue();
        boolean staticsAreDue = staticsAreDue(PinBarrels.class);
        boolean sizesAreDue = sizesAreDue();
        boolean linesAreDue = linesAreDue();
        if (!faceIsDue || !wordsAreDue || !staticsAreDue || !sizesAreDue || !linesAreDue) {
            System.exit(1);
        }
        System.out.println("the face and the words are as due");
    }

    private static boolean faceIsDue() {
        Set<String> found = new TreeSet<>();
        for (Field field : PinBarrels.class.getDeclaredFields()) {
            addIfSeen(found, field.getModifiers(), field.toString());
        }
        for (Constructor<?> constructor : PinBarrels.class.getDeclaredConstructors()) {
            addIfSeen(found, constructor.getModifiers(), constructor.toString());
        }
        for (Method method : PinBarrels.class.getDeclaredMethods()) {
            addIfSeen(found, method.getModifiers(), method.toString());
        }
        int modifiers = PinBarrels.class.getModifiers();
        boolean due = found.equals(new TreeSet<>(FACE)) && Modifier.isFinal(modifiers)
                && Modifier.isPublic(modifiers) && PinBarrels.NONE == -1;
        if (!due) {
            System.out.println("the face is " + found);
        }
        return due;
    }

    private static void addIfSeen(Set<String> found, int modifiers, String member) {
        if (!Modifier.isPrivate(modifiers)) {
            found.add(member);
        }
    }

    private static boolean wordsAreDue() throws IOException {
        String code = Files.readString(SOURCE).replaceAll("(?s)/\\*.*?\\*/|//[^\n]*", "");
        Matcher matcher = LEFT_OUT.matcher(code);
        boolean due = true;
        while (matcher.find()) {
            due = false;
            System.out.println("the language leaves out: " + matcher.group());
        }
        return due;
    }

    private static boolean staticsAreDue(Class<?> type) {
        boolean due = true;
        for (Field field : type.getDeclaredFields()) {
            int modifiers = field.getModifiers();
            if (Modifier.isStatic(modifiers) && !Modifier.isFinal(modifiers)) {
                due = false;
                System.out.println("static and not final: " + field);
            }
        }
        for (Class<?> inside : type.getDeclaredClasses()) {
            if (!Modifier.isStatic(inside.getModifiers())) {
                due = false;
                System.out.println("inside and not static: " + inside);
            }
            due &= staticsAreDue(inside);
        }
        return due;
    }

    /** The classes' and fields' numbers, the parameters', and that no other method bears a name of the face. */
    private static boolean sizesAreDue() {
        List<Class<?>> types = new ArrayList<>(List.of(PinBarrels.class.getDeclaredClasses()));
        types.add(PinBarrels.class);
        boolean due = types.size() <= MOST_CLASSES;
        for (Class<?> type : types) {
            long fields = Arrays.stream(type.getDeclaredFields())
                    .filter(field -> !Modifier.isStatic(field.getModifiers())).count();
            due &= fields <= MOST_FIELDS;
            for (Method method : type.getDeclaredMethods()) {
                boolean isOfFace = FACE.contains(method.toString());
                boolean bearsItsName = FACE.stream().anyMatch(member -> member.contains("." + method.getName() + "("));
                due &= method.getParameterCount() <= MOST_PARAMETERS && isOfFace == bearsItsName;
            }
        }
        if (!due) {
            System.out.println("too many classes, fields or parameters, or a name of the face twice");
        }
        return due;
    }

    /** Methods stand at one or two indents; a statement's block there is measured too, and is shorter. */
    private static boolean linesAreDue() throws IOException {
        List<String> lines = Files.readAllLines(SOURCE);
        boolean due = true;
        for (int i = 0; i < lines.size(); i++) {
            Matcher start = Pattern.compile("( {4}| {8})\\S.*\\) \\{").matcher(lines.get(i));
            if (start.matches()) {
                int end = i + lines.subList(i, lines.size()).indexOf(start.group(1) + "}");
                if (end < i || end - i >= MOST_LINES) {
                    due = false;
                    System.out.println("too long: " + lines.get(i).trim());
                }
            }
        }
        return due;
    }
}
