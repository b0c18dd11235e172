import java.io.IOException;
import java.lang.reflect.Constructor;
import java.lang.reflect.Field;
import java.lang.reflect.Method;
import java.lang.reflect.Modifier;
import java.nio.file.Files;
import java.nio.file.Path;
import java.util.Set;
import java.util.TreeSet;

/** The document's face, no more and no less, and those rules of LANGUAGE.md that can be seen in the text. */
public final class FaceTest {
    private static final Due DUE = new Due("FaceTest");
    private static final Path SOURCE = Path.of("src/main/java/DogVotes.java");
    private static final String[] FACE = {"int say(int)", "int wipe()", "int fault()", "int roll()", "int dog(int,int)",
        "int heir(int,int)", "int dies(int)", "int goes(int,int,int)", "int vote(int,int,int)", "int stolen(int,int)",
        "int won(int)", "int rests(int)", "int letOut(int,int,int)", "int swings(int)", "long turn(int,int)",
        "int counted(int,int,int)", "int forget()", "int fits(int)", "int liking(int,int)", "int ask(int,int,int)",
        "int drop()", "int hunger(int)", "int best(int)", "int night(int,int,int)", "int image(int)", "int restore(int)",
        "int told(int)"};

    public static void main(String[] args) throws IOException {
        constants();
        members();
        nested();
        words();
        lengths();
        DUE.end();
    }

    private static void constants() {
        DUE.is("NONE", DogVotes.NONE, -6);
        DUE.is("UNKNOWN", DogVotes.UNKNOWN, -1);
        DUE.is("OUTSIDE", DogVotes.OUTSIDE, -2);
        DUE.is("STATE", DogVotes.STATE, -3);
        DUE.is("FULL", DogVotes.FULL, -4);
        DUE.is("NO", DogVotes.NO, -5);
        DUE.is("LOST", DogVotes.LOST, -1000000000000000000L);
    }

    private static void members() {
        Set<String> wanted = new TreeSet<>(Set.of(FACE));
        Set<String> names = new TreeSet<>();
        for (String member : FACE) {
            names.add(member.substring(member.indexOf(' ') + 1, member.indexOf('(')));
        }
        Set<String> seen = new TreeSet<>();
        for (Method method : DogVotes.class.getDeclaredMethods()) {
            if (Modifier.isPrivate(method.getModifiers())) {
                DUE.holds("private " + method.getName() + " has a name of its own", !names.contains(method.getName()));
                continue;
            }
            StringBuilder types = new StringBuilder();
            for (Class<?> type : method.getParameterTypes()) {
                types.append(types.length() == 0 ? "" : ",").append(type.getName());
            }
            seen.add(method.getReturnType().getName() + " " + method.getName() + "(" + types + ")");
            DUE.is("modifiers of " + method.getName(), method.getModifiers(), Modifier.PUBLIC);
        }
        DUE.holds("methods are those of the document: " + seen, seen.equals(wanted));
        Set<String> fields = new TreeSet<>();
        for (Field field : DogVotes.class.getDeclaredFields()) {
            if (!Modifier.isPrivate(field.getModifiers())) {
                fields.add(field.getName());
            }
        }
        DUE.holds("constants are those of the document: " + fields,
            fields.equals(Set.of("NONE", "UNKNOWN", "OUTSIDE", "STATE", "FULL", "NO", "LOST")));
        Constructor<?>[] constructors = DogVotes.class.getDeclaredConstructors();
        DUE.is("constructors", constructors.length, 1);
        DUE.is("its modifiers", constructors[0].getModifiers(), Modifier.PUBLIC);
        DUE.is("its parameters", constructors[0].getParameterCount(), 0);
        DUE.is("modifiers of the class", DogVotes.class.getModifiers(), Modifier.PUBLIC | Modifier.FINAL);
    }

    private static void nested() {
        Class<?>[] classes = DogVotes.class.getDeclaredClasses();
        DUE.holds("at most twelve classes", classes.length + 1 <= 12);
        for (Class<?> inside : classes) {
            DUE.holds(inside + " is static", Modifier.isStatic(inside.getModifiers()));
            int own = 0;
            for (Field field : inside.getDeclaredFields()) {
                boolean fixed = Modifier.isStatic(field.getModifiers());
                DUE.holds(field + " is no static state", !fixed || Modifier.isFinal(field.getModifiers()));
                own += fixed ? 0 : 1;
            }
            DUE.holds(inside + " has at most twenty fields", own <= 20);
            for (Method method : inside.getDeclaredMethods()) {
                DUE.holds(method + " takes at most seven", method.getParameterCount() <= 7);
            }
        }
    }

    private static void words() throws IOException {
        String text = Files.readString(SOURCE);
        for (String word : new String[] {"import ", "package ", "throw ", "catch", "finally", "synchronized", "assert ", "->", "::",
            "Exact(", "System.out", "double", "float"}) {
            DUE.holds("no '" + word + "' in the text", !text.contains(word));
        }
        DUE.holds("signs 1 to 127 alone", text.chars().allMatch(c -> c >= 1 && c <= 127));
    }

    /** Nothing is made but in constructors and fields: a run's room does not grow with its calls. */
    private static void lengths() throws IOException {
        String method = "";
        int begun = 0;
        int number = 0;
        for (String line : Files.readAllLines(SOURCE)) {
            number++;
            String bare = line.strip();
            boolean isHead = line.matches(" {4,8}[a-z][A-Za-z \\[\\]]*[A-Za-z]+\\(.*\\) \\{") || line.matches(" {4,8}[a-zA-Z ]+\\([a-z ]*\\) \\{");
            if (isHead) {
                method = bare;
                begun = number;
            }
            boolean isConstructor = method.matches("(public )?[A-Z].*") || method.startsWith("public DogVotes");
            boolean isField = bare.matches("(private )?final .*");
            DUE.holds("line " + number + " makes nothing in a method", !bare.contains("new ") || isConstructor || isField);
            DUE.holds(method + " is short", !bare.equals("}") || number - begun <= 60 || line.length() < 5);
        }
    }
}
