import java.io.IOException;
import java.lang.reflect.Field;
import java.lang.reflect.Member;
import java.lang.reflect.Method;
import java.lang.reflect.Modifier;
import java.nio.file.Files;
import java.nio.file.Path;
import java.util.Set;
import java.util.TreeSet;
import java.util.regex.Matcher;
import java.util.regex.Pattern;

/** The public face, and the rules of LANGUAGE.md that can be seen from outside or in the words of the text. */
public final class FaceTest {
    private static final String[] FACE = {
        "int feed(int,int,int,int,int)", "int end(int)", "int tale()", "int fault(int)", "int part(int,int)", "int near(int)",
        "int far(int,int)", "int stiff(int,int)", "int open(int)", "int when(int)", "int how(int)", "int read(int)",
        "int reads(int)", "int all()", "int keeps(int,int)", "int waits(int)", "int next(int)", "int dull(int)",
        "int dies(int)", "int ages(int)", "int cut(int)", "int sharp()", "int uncut()", "int done()", "int rush()",
        "int with(int)", "int charms()", "int best(int)", "int peak()", "int first()", "int quiet()", "int lone(int)",
        "int stalest(int)", "int pieces()", "int lost()", "int knives(int)", "int idle()", "int few()", "int fews()",
        "int worth(int)", "int share(int,int)", "int plan(int)", "int planned(int,int)", "int plans(int)",
        "int stiffs(int,int)", "int low(int,int)", "int high(int,int)", "int ask(int,int)", "int leaves(int,int)",
        "int laws(int)", "int by(int)", "int law()", "int blunt()", "int slit()", "int uncle()", "int opens()",
        "int replies(int)", "int rests(int,int)", "int gets(int,int,int,int)", "int chance(int,int)", "long mean(int)",
        "int knife(int,int)", "int air(int,int)", "int undo()", "int anew()", "int drawn(int,int)", "int luck(int,int,int)",
        "int rate(int,int)", "int count(int)", "int image(int)", "int back(int)", "int row(int,int,int)",
        "int write(int,int,long)", "int paste(int,int,int,int,int)"};
    private static final String[] FORBIDDEN = {"\\bthrow\\b", "\\btry\\b", "\\bcatch\\b", "\\bsynchronized\\b", "\\bassert\\b",
        "->", "::", "\\w+Exact\\b", "\\bprotected\\b", "\\bRandom\\b", "\\bcurrentTimeMillis\\b", "\\bnanoTime\\b", "\\bpackage\\b"};
    private static final Due DUE = new Due();

    public static void main(String[] args) throws IOException {
        face();
        nested();
        words();
        fresh();
        DUE.end();
    }

    private static void face() {
        Set<String> due = new TreeSet<>(java.util.Arrays.asList(FACE));
        Set<String> names = new TreeSet<>();
        Set<String> found = new TreeSet<>();
        for (Method m : UncutTale.class.getDeclaredMethods()) {
            if (!Modifier.isPrivate(m.getModifiers())) {
                found.add(described(m));
                names.add(m.getName());
            }
        }
        DUE.is("the face is " + found, found.equals(due) ? 1 : 0, 1);
        for (Method m : UncutTale.class.getDeclaredMethods()) {
            if (Modifier.isPrivate(m.getModifiers())) {
                DUE.is("a private method bears a public one's name: " + m, names.contains(m.getName()) ? 1 : 0, 0);
            }
        }
        DUE.is("public and final", UncutTale.class.getModifiers(), Modifier.PUBLIC | Modifier.FINAL);
        DUE.is("one constructor", UncutTale.class.getDeclaredConstructors().length, 1);
        DUE.is("NONE", UncutTale.NONE, -1);
        for (Field f : UncutTale.class.getDeclaredFields()) {
            DUE.is("not private: " + f, hidden(f) || f.getName().equals("NONE") ? 1 : 0, 1);
        }
    }

    private static String described(Method m) {
        StringBuilder b = new StringBuilder(m.getReturnType() + " " + m.getName() + "(");
        for (Class<?> c : m.getParameterTypes()) {
            b.append(b.charAt(b.length() - 1) == '(' ? "" : ",").append(c);
        }
        return b.append(")").toString();
    }

    private static boolean hidden(Member m) {
        return Modifier.isPrivate(m.getModifiers());
    }

    private static void nested() {
        Class<?>[] inside = UncutTale.class.getDeclaredClasses();
        DUE.is("at most twelve classes", inside.length < 12 ? 1 : 0, 1);
        for (Class<?> c : inside) {
            DUE.is("static: " + c, Modifier.isStatic(c.getModifiers()) ? 1 : 0, 1);
            DUE.is("not public: " + c, Modifier.isPublic(c.getModifiers()) ? 1 : 0, 0);
            int fields = 0;
            for (Field f : c.getDeclaredFields()) {
                fields += Modifier.isStatic(f.getModifiers()) ? 0 : 1;
                DUE.is("static, not final: " + f,
                    Modifier.isStatic(f.getModifiers()) && !Modifier.isFinal(f.getModifiers()) ? 1 : 0, 0);
            }
            DUE.is("at most twenty fields: " + c, fields <= 20 ? 1 : 0, 1);
            for (Method m : c.getDeclaredMethods()) {
                DUE.is("at most seven parameters: " + m, m.getParameterCount() <= 7 ? 1 : 0, 1);
            }
        }
    }

    private static void words() throws IOException {
        Path path = Path.of("src/main/java/UncutTale.java");
        DUE.is("the tests run where the project is", Files.exists(path) ? 1 : 0, 1);
        String text = Files.readString(path).replaceAll("(?s)/\\*.*?\\*/", "").replaceAll("//.*", "");
        for (String forbidden : FORBIDDEN) {
            Matcher m = Pattern.compile(forbidden).matcher(text);
            DUE.is("in the text: " + forbidden, m.find() ? 1 : 0, 0);
        }
        Matcher imports = Pattern.compile("import ([\\w.]+);").matcher(text);
        while (imports.find()) {
            DUE.is("import " + imports.group(1), imports.group(1).equals("java.util.Arrays") ? 1 : 0, 1);
        }
    }

    /** No call makes objects, so that any run of calls fits the one room it has. */
    private static void fresh() throws IOException {
        String text = Files.readString(Path.of("src/main/java/UncutTale.java"));
        int made = 0;
        for (String line : text.split("\n")) {
            boolean field = line.matches(" {8}final .* = new .*");
            boolean constructor = line.matches(" {8,12}(tape|draft|parser|story|images(\\[k\\])?|imaged|slots|now|trial|planner|odds|guess) = new .*");
            made += line.contains("new ") && line.contains("= new") && !field && !constructor ? 1 : 0;
        }
        DUE.is("objects made outside of constructors", made, 0);
    }
}
