import java.lang.management.ManagementFactory;
import java.lang.reflect.Constructor;
import java.lang.reflect.Executable;
import java.lang.reflect.Field;
import java.lang.reflect.Method;
import java.lang.reflect.Modifier;
import java.nio.file.Files;
import java.nio.file.Path;
import java.util.Set;
import java.util.TreeSet;
import java.util.regex.Matcher;
import java.util.regex.Pattern;

/** The rules of LANGUAGE.md that can be looked at: the face, words that are ruled out, static fields, lengths, and the room. */
public final class LanguageTest {
    private static final String SOURCE = "src/main/java/FormSeries.java";
    private static final String[] FACE = {
        "int sums(int)", "int product(int)", "int add(int,int,int,int)", "int times(int,int)", "int power(int,int)",
        "int slope(int)", "int bracket(int,int)", "int over(int)", "int prime(int,int)", "int basis(int,int)", "int drop()",
        "int look(int,int)", "int at(int,int)", "int part(int,int)", "int same(int,int)", "int apart(int,int)", "int size(int)",
        "int own(int,int)", "int trace(int,int,boolean)", "int squares(int,int)", "int count()", "int lay(int,int)",
        "int tell(int,int)", "int give(int)", "int tear()", "int row(int)", "int copy(int,int,int)", "int status(int)"};
    private static final String[] CONSTANTS = {"NONE", "MISSING", "BEYOND", "BELOW", "KIND", "COPY", "NO", "FULL"};
    private static final String[] RULED_OUT = {"\\bthrow\\b", "\\btry\\b", "\\bcatch\\b", "\\bsynchronized\\b", "\\bassert\\b",
        "->", "::", "\\bimport\\b", "\\bpackage\\b", "\\bprotected\\b", "Exact\\b", "\\bstatic\\s*\\{", "\\bwhile\\s*\\(true\\)",
        "for\\s*\\(;;", "hashCode", "toString", "[^\\x00-\\x7f]", "@"};
    private static final String LIBRARY = "(Math|Integer|Long)\\.(compare|max|min|abs|bitCount|floorDiv|floorMod)"
        + "|System\\.arraycopy|Arrays\\.(copyOf|copyOfRange|fill)|List\\.of";
    private static int wrong = 0;

    private static void check(boolean holds, String what) {
        if (!holds) {
            wrong++;
            System.out.println("not so: " + what);
        }
    }

    public static void main(String[] args) throws Exception {
        face();
        insides();
        String source = Files.readString(Path.of(SOURCE));
        words(source);
        library(bare(source));
        constructors(bare(source));
        room();
        System.out.println(wrong == 0 ? "the rules are kept" : wrong + " rules are not kept");
        if (wrong != 0) System.exit(1);
    }

    private static String told(Executable e) {
        StringBuilder text = new StringBuilder(e.getName()).append('(');
        for (Class<?> type : e.getParameterTypes()) text.append(text.charAt(text.length() - 1) == '(' ? "" : ",").append(type.getName());
        return text.append(')').toString();
    }

    private static void face() throws Exception {
        Class<?> type = FormSeries.class;
        check(Modifier.isPublic(type.getModifiers()) && Modifier.isFinal(type.getModifiers()), "public and final");
        Set<String> due = new TreeSet<>(Set.of(FACE)), publicNames = new TreeSet<>(), got = new TreeSet<>();
        for (Method m : type.getDeclaredMethods()) {
            if (Modifier.isPublic(m.getModifiers())) {
                got.add(m.getReturnType().getName() + " " + told(m));
                publicNames.add(m.getName());
                check(!Modifier.isStatic(m.getModifiers()), m + " is no static one");
            } else {
                check(Modifier.isPrivate(m.getModifiers()), m + " is private");
            }
        }
        check(got.equals(due), "the public methods are " + due + ", not " + got);
        for (Class<?> inner : type.getDeclaredClasses()) {
            for (Method m : inner.getDeclaredMethods()) check(!publicNames.contains(m.getName()), m + " bears no public name");
        }
        for (Method m : type.getDeclaredMethods()) {
            check(Modifier.isPublic(m.getModifiers()) || !publicNames.contains(m.getName()), m + " bears no public name");
        }
        Constructor<?>[] made = type.getDeclaredConstructors();
        check(made.length == 1 && made[0].getParameterCount() == 0 && Modifier.isPublic(made[0].getModifiers()), "one public constructor");
        for (int i = 0; i < CONSTANTS.length; i++) check(type.getField(CONSTANTS[i]).getInt(null) == -1 - i, CONSTANTS[i]);
        check(type.getFields().length == CONSTANTS.length, "no other public field");
    }

    private static void insides() {
        Class<?>[] inner = FormSeries.class.getDeclaredClasses();
        check(inner.length < 12, "at most some twelve classes");
        fields(FormSeries.class);
        for (Class<?> type : inner) {
            check(Modifier.isStatic(type.getModifiers()) && !Modifier.isPublic(type.getModifiers()), type + " is static, not public");
            fields(type);
            for (Method m : type.getDeclaredMethods()) check(m.getParameterCount() <= 7, m + " takes at most seven");
        }
    }

    private static void fields(Class<?> type) {
        int own = 0;
        for (Field f : type.getDeclaredFields()) {
            if (!Modifier.isStatic(f.getModifiers())) own++;
            else check(Modifier.isFinal(f.getModifiers()), f + " is final");
            if (type == FormSeries.class && !Modifier.isPublic(f.getModifiers())) check(Modifier.isPrivate(f.getModifiers()), f + " is private");
        }
        check(own <= 20, type + " has at most some twenty fields");
    }

    private static String bare(String source) {
        return source.replaceAll("(?s)/\\*.*?\\*/", "").replaceAll("//[^\n]*", "");
    }

    /** Rule 4: of the library only what stands there. */
    private static void library(String code) {
        Set<String> own = new TreeSet<>();
        for (Class<?> type : FormSeries.class.getDeclaredClasses()) own.add(type.getSimpleName());
        Matcher m = Pattern.compile("\\b([A-Z][a-z]\\w*)\\.(\\w+)").matcher(code);
        while (m.find()) {
            check(own.contains(m.group(1)) || m.group().matches(LIBRARY), m.group() + " stands in LANGUAGE.md");
        }
    }

    /** Rule 12: a constructor hands out nothing of the object that it makes, neither itself nor what a field holds. */
    private static void constructors(String code) {
        Set<String> kept = new TreeSet<>(Set.of("this"));
        keptIn(FormSeries.class, kept);
        String names = "FormSeries";
        for (Class<?> type : FormSeries.class.getDeclaredClasses()) {
            keptIn(type, kept);
            names += "|" + type.getSimpleName();
        }
        int found = 0;
        Matcher made = Pattern.compile("(?m)^( +)(public |private )?(" + names + ")\\([^)]*\\) \\{\n(?s:.*?)\n\\1\\}"
            + "|^ {4,8}(private )?final [^=\n]*=[^;]*;").matcher(code);
        while (made.find()) {
            found += made.group(3) == null ? 0 : 1;
            for (String field : kept) {
                check(!Pattern.compile("[(,]\\s*(this\\.)?" + field + "\\s*[,)]").matcher(made.group()).find(),
                    field + " is not handed out in: " + made.group().strip());
            }
        }
        check(found > 0, "the constructors were found");
    }

    private static void keptIn(Class<?> type, Set<String> kept) {
        for (Field f : type.getDeclaredFields()) {
            if (!Modifier.isStatic(f.getModifiers()) && !f.getType().isPrimitive()) kept.add(f.getName());
        }
    }

    private static void words(String source) {
        String code = bare(source);
        for (String word : RULED_OUT) {
            Matcher m = Pattern.compile(word).matcher(code);
            check(!m.find(), "no " + word + " in the program");
        }
        int start = 0, line = 0;
        for (String text : source.split("\n")) {
            line++;
            if (text.matches("( {4}| {8})\\S.*\\) \\{")) start = line;
            if (text.matches("( {4}| {8})\\}")) check(line - start <= 60, "the method at line " + start + " is short");
        }
    }

    /** Calls make nothing new: all rows are made with the object, so that runs stay far below the room. */
    private static void room() {
        if (!(ManagementFactory.getThreadMXBean() instanceof com.sun.management.ThreadMXBean bean)) return;
        long id = Thread.currentThread().getId();
        FormSeries warm = new FormSeries();
        dearCalls(warm);
        long before = bean.getThreadAllocatedBytes(id);
        FormSeries x = new FormSeries();
        long made = bean.getThreadAllocatedBytes(id);
        dearCalls(x);
        long after = bean.getThreadAllocatedBytes(id);
        check(made - before < 60000, "an object takes less than 60000 bytes, not " + (made - before));
        check(after - made < 5000, "calls take no room, not " + (after - made));
    }

    private static void dearCalls(FormSeries x) {
        for (int i = 0; i < 64; i++) {
            x.basis(40, 0);
            x.trace(40, 11, false);
            x.lay(0, 48);
            x.give(40);
            x.prime(0, 2);
            x.squares(8, 99);
            x.part(0, 3);
            x.drop();
        }
    }
}
