import java.io.IOException;
import java.lang.reflect.Constructor;
import java.lang.reflect.Field;
import java.lang.reflect.Member;
import java.lang.reflect.Method;
import java.lang.reflect.Modifier;
import java.nio.file.Files;
import java.nio.file.Path;
import java.util.ArrayList;
import java.util.List;
import java.util.TreeSet;
import java.util.regex.Matcher;
import java.util.regex.Pattern;

/** The public face, its constants, and those rules of LANGUAGE.md that can be seen from outside. */
public final class FaceTest {
    private static final Check CHECK = new Check("FaceTest");
    private static final Path SOURCE = Path.of("src/main/java/BottomryLoans.java");
    private static final String[] FACE = {
        "feed(int)", "voyage()", "fault()", "told(int)", "leg(int,int)", "lender(int,int)", "loan(int,int)",
        "borrow(int,int,boolean)", "repair(int)", "sail(boolean)", "drift(int)", "undo()", "comesHome()", "rate()",
        "willing()", "paid(int)", "hurt(int,int,boolean)", "share(int,int)", "plan(int)", "belief(int,int)",
        "need(int,int)", "tell(int,int)", "worth(int)", "write(int)", "tear()", "judge()", "seed(int)", "keep(int)",
        "goBack(int)"};
    private static final String[] FORBIDDEN_WORDS = {"throw", "throws", "try", "catch", "finally", "synchronized",
        "assert", "import", "package", "protected", "native", "hashCode", "toString", "System\\.out", "->", "::"};

    public static void main(String[] args) throws IOException {
        constants();
        methods();
        hiddenMembers();
        inside();
        words();
        CHECK.finish();
    }

    private static void yes(String what, boolean holds) {
        CHECK.due(what, holds ? 1 : 0, 1);
    }

    private static void constants() {
        CHECK.due("NONE", BottomryLoans.NONE, -1);
        CHECK.due("UNKNOWN", BottomryLoans.UNKNOWN, -1000000001);
        CHECK.due("OUTSIDE", BottomryLoans.OUTSIDE, -1000000002);
        CHECK.due("NOT", BottomryLoans.NOT, -1000000003);
        CHECK.due("FULL", BottomryLoans.FULL, -1000000004);
    }

    private static TreeSet<String> visible(Member[] members) {
        TreeSet<String> names = new TreeSet<>();
        for (Member member : members) {
            if (!Modifier.isPrivate(member.getModifiers()) && !member.isSynthetic()) {
                names.add(member.getName());
            }
        }
        return names;
    }

    private static void methods() {
        TreeSet<String> due = new TreeSet<>(List.of(FACE));
        TreeSet<String> got = new TreeSet<>();
        for (Method method : BottomryLoans.class.getDeclaredMethods()) {
            if (!Modifier.isPrivate(method.getModifiers()) && !method.isSynthetic()) {
                List<String> types = new ArrayList<>();
                for (Class<?> type : method.getParameterTypes()) {
                    types.add(type.getName());
                }
                got.add(method.getName() + "(" + String.join(",", types) + ")");
                yes(method + " is public and answers int", Modifier.isPublic(method.getModifiers())
                    && !Modifier.isStatic(method.getModifiers()) && method.getReturnType() == int.class);
            }
        }
        yes("the methods are " + due + ", not " + got, due.equals(got));
    }

    private static void hiddenMembers() {
        TreeSet<String> constants = visible(BottomryLoans.class.getDeclaredFields());
        yes("the fields seen are the constants: " + constants,
            constants.equals(new TreeSet<>(List.of("NONE", "UNKNOWN", "OUTSIDE", "NOT", "FULL"))));
        Constructor<?>[] made = BottomryLoans.class.getDeclaredConstructors();
        yes("one constructor, public, without arguments",
            made.length == 1 && Modifier.isPublic(made[0].getModifiers()) && made[0].getParameterCount() == 0);
        yes("final", Modifier.isFinal(BottomryLoans.class.getModifiers()));
        for (Field field : BottomryLoans.class.getDeclaredFields()) {
            yes(field + " is final if it is static",
                !Modifier.isStatic(field.getModifiers()) || Modifier.isFinal(field.getModifiers()));
        }
    }

    private static void inside() {
        TreeSet<String> face = new TreeSet<>();
        for (String method : FACE) {
            face.add(method.substring(0, method.indexOf('(')));
        }
        Class<?>[] inside = BottomryLoans.class.getDeclaredClasses();
        yes("twelve classes at most", inside.length + 1 <= 12);
        for (Class<?> one : inside) {
            yes(one + " is static", Modifier.isStatic(one.getModifiers()));
            yes(one + " is not public", !Modifier.isPublic(one.getModifiers()));
            for (Method method : one.getDeclaredMethods()) {
                yes(method + " bears no name of the face", !face.contains(method.getName()));
                yes(method + " has seven parameters at most", method.getParameterCount() <= 7);
            }
        }
    }

    private static void words() throws IOException {
        String code = Files.readString(SOURCE)
            .replaceAll("(?s)/\\*.*?\\*/", " ").replaceAll("//[^\\n]*", " ").replaceAll("'.'", "0");
        for (String word : FORBIDDEN_WORDS) {
            boolean isName = Character.isLetter(word.charAt(0));
            Matcher found = Pattern.compile(isName ? "\\b" + word + "\\b" : word).matcher(code);
            yes("no '" + word + "' in the program", !found.find());
        }
        for (String line : Files.readAllLines(SOURCE)) {
            yes("plain signs alone: " + line, line.chars().allMatch(sign -> sign >= 32 && sign < 127));
        }
    }
}
