import java.io.IOException;
import java.lang.reflect.Constructor;
import java.lang.reflect.Field;
import java.lang.reflect.Method;
import java.lang.reflect.Modifier;
import java.nio.file.Files;
import java.nio.file.Path;
import java.util.ArrayList;
import java.util.Collections;
import java.util.List;
import java.util.TreeSet;

/** The face of the class is that of the document, to the word, and its file keeps to the rules that can be looked up. */
public final class FaceTest {
    private static final String INDEX = "IndexOutOfBoundsException", ARGUMENT = "IllegalArgumentException",
        STATE = "IllegalStateException";
    private static final String[] METHODS = {
        "int setZone(int,int) " + INDEX + "," + ARGUMENT + "," + STATE,
        "int setChannels(int,int,int) " + INDEX + "," + ARGUMENT,
        "int setRate(int,boolean,int) " + ARGUMENT,
        "int setSlice(int) " + ARGUMENT,
        "int setCap(int,int) " + INDEX + "," + ARGUMENT,
        "int setWallet(int,int) " + INDEX + "," + STATE,
        "int top(int,int) " + INDEX + "," + ARGUMENT,
        "int give(int,int,int) " + INDEX + "," + ARGUMENT + "," + STATE,
        "int buy(int,int,int,int,int,int) " + INDEX + "," + ARGUMENT + "," + STATE,
        "int free(int) " + INDEX,
        "int aside(int) " + INDEX,
        "int spent(int) " + INDEX,
        "int left(int) " + INDEX,
        "int begin(int,int,boolean) " + INDEX + "," + ARGUMENT + "," + STATE,
        "int join(int,int,boolean) " + INDEX + "," + STATE,
        "int leave(int) " + INDEX + "," + STATE,
        "boolean move(int,int) " + INDEX,
        "int pass(int) " + ARGUMENT + "," + STATE,
        "int now() ",
        "int cellOf(int) " + INDEX,
        "int rateOf(int) " + INDEX,
        "int legOf(int) " + INDEX,
        "int sliceOf(int) " + INDEX,
        "int parties(int) " + INDEX,
        "int legs() ",
        "int stateOf(int) " + INDEX,
        "int seconds(int) " + INDEX,
        "int charged(int) " + INDEX,
        "int covered(int) " + INDEX,
        "int ratedByEvents(int) " + INDEX,
        "int tag(int) " + INDEX,
        "int seal(int) " + INDEX,
        "int stamp(int) " + INDEX,
        "int lineAt(int,int) " + INDEX,
    };
    private static final String[] FORBIDDEN = {"->", "::", "finally", "synchronized", "assert ", "protected", " catch ",
        "hashCode", "equals(", "toString(", "Exact(", "\" +", "+ \"", "native ", "Math.random", "System.", "Integer.", "Long.", "Arrays."};

    public static void main(String[] args) throws IOException {
        methods();
        constantsAndConstructor();
        namesOfPrivateMethods();
        source(Files.readString(Path.of("src/main/java/MeshBiller.java")));
        Check.finish();
    }

    private static void methods() {
        List<String> told = new ArrayList<>(List.of(METHODS));
        List<String> found = new ArrayList<>();
        for (Method m : MeshBiller.class.getDeclaredMethods()) {
            if (!Modifier.isPrivate(m.getModifiers()) && !m.isSynthetic()) {
                Check.holds(m.getName() + " is public and no more", m.getModifiers() == Modifier.PUBLIC);
                found.add(m.getReturnType().getSimpleName() + " " + m.getName() + "(" + names(m.getParameterTypes())
                    + ") " + names(m.getExceptionTypes()));
            }
        }
        Collections.sort(told);
        Collections.sort(found);
        Check.due("the methods", found.toString(), told.toString());
    }

    private static String names(Class<?>[] types) {
        StringBuilder all = new StringBuilder();
        for (Class<?> type : types) {
            all.append(all.length() == 0 ? "" : ",").append(type.getSimpleName());
        }
        return all.toString();
    }

    private static void constantsAndConstructor() {
        TreeSet<String> found = new TreeSet<>();
        for (Field f : MeshBiller.class.getDeclaredFields()) {
            if (!Modifier.isPrivate(f.getModifiers())) {
                found.add(Modifier.toString(f.getModifiers()) + " " + f.getType() + " " + f.getName());
            }
            Check.holds(f.getName() + " is final if it is static",
                !Modifier.isStatic(f.getModifiers()) || Modifier.isFinal(f.getModifiers()));
        }
        TreeSet<String> told = new TreeSet<>();
        for (String name : new String[] {"NONE", "GOES_ON", "ENDED", "CUT", "DROPPED"}) {
            told.add("public static final int " + name);
        }
        Check.due("the constants", found.toString(), told.toString());
        Constructor<?>[] all = MeshBiller.class.getDeclaredConstructors();
        Check.due("constructors", all.length, 1);
        Check.holds("the constructor", all[0].getModifiers() == Modifier.PUBLIC && all[0].getParameterCount() == 0);
        Check.holds("the class", MeshBiller.class.getModifiers() == (Modifier.PUBLIC | Modifier.FINAL));
    }

    private static void namesOfPrivateMethods() {
        TreeSet<String> face = new TreeSet<>();
        for (String method : METHODS) {
            face.add(method.substring(method.indexOf(' ') + 1, method.indexOf('(')));
        }
        List<Class<?>> classes = new ArrayList<>(List.of(MeshBiller.class.getDeclaredClasses()));
        Check.holds("some twelve classes", classes.size() < 12);
        classes.add(MeshBiller.class);
        for (Class<?> c : classes) {
            Check.holds(c + " has some twenty fields", instanceFields(c) <= 20);
            for (Method m : c.getDeclaredMethods()) {
                Check.holds("the name of " + m, Modifier.isPublic(m.getModifiers()) || !face.contains(m.getName()));
                Check.holds("the parameters of " + m, m.getParameterCount() <= 7);
            }
        }
    }

    private static int instanceFields(Class<?> c) {
        int count = 0;
        for (Field f : c.getDeclaredFields()) {
            count += Modifier.isStatic(f.getModifiers()) ? 0 : 1;
        }
        return count;
    }

    private static void source(String text) {
        for (String word : FORBIDDEN) {
            Check.holds("no " + word + " in the file", !text.contains(word));
        }
        int imports = 0;
        for (String line : text.split("\n")) {
            if (line.startsWith("import")) {
                imports++;
                Check.due("the import", line, "import java.util.ArrayList;");
            }
            Check.holds("a line of at most 120 signs: " + line, line.length() <= 120);
        }
        Check.due("imports", imports, 1);
        for (int i = 0; i < text.length(); i++) {
            Check.holds("signs of the file", text.charAt(i) < 127);
        }
    }
}
