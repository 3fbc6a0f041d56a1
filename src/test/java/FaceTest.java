import java.lang.reflect.Constructor;
import java.lang.reflect.Field;
import java.lang.reflect.Method;
import java.lang.reflect.Modifier;
import java.util.Arrays;
import java.util.Set;
import java.util.TreeSet;

/** The public face: just the members that the document lists, with their types and exceptions. */
public final class FaceTest {
    private static final String[] FACE = {
        "int addApplicant(char,int,int) IllegalArgumentException IllegalStateException",
        "int removeApplicant(int) NoSuchElementException",
        "int rejectRainy(int) IllegalArgumentException",
        "int applicantCount()",
        "int waitingCount()",
        "int applicant(int) IndexOutOfBoundsException",
        "char shape(int) NoSuchElementException",
        "int whiteness(int) NoSuchElementException",
        "int rain(int) NoSuchElementException",
        "int coins(int) NoSuchElementException",
        "boolean isHired(int) NoSuchElementException",
        "int postOf(int) NoSuchElementException",
        "int score(int) NoSuchElementException",
        "int applicantByScore(int) IndexOutOfBoundsException",
        "int addReference(int,int) NoSuchElementException IllegalArgumentException IllegalStateException",
        "int removeReference(int,int) NoSuchElementException",
        "boolean hasReference(int,int) NoSuchElementException",
        "int referencesFor(int) NoSuchElementException",
        "int referencesFrom(int) NoSuchElementException",
        "int openPost(char,int,int,int) IllegalArgumentException IllegalStateException",
        "boolean closePost(int) IndexOutOfBoundsException",
        "int postCount()",
        "int vacantCount()",
        "char requiredShape(int) IndexOutOfBoundsException",
        "int lowestWhiteness(int) IndexOutOfBoundsException",
        "int highestRain(int) IndexOutOfBoundsException",
        "int wage(int) IndexOutOfBoundsException",
        "int filledBy(int) IndexOutOfBoundsException NoSuchElementException",
        "boolean suits(int,int) NoSuchElementException IndexOutOfBoundsException",
        "int favouritePost(int) NoSuchElementException",
        "int bestCandidate(int) IndexOutOfBoundsException NoSuchElementException",
        "int candidateCount(int) IndexOutOfBoundsException",
        "int hire(int,int) IndexOutOfBoundsException NoSuchElementException IllegalStateException"
            + " UnsupportedOperationException",
        "int hireBest(int) IndexOutOfBoundsException IllegalStateException NoSuchElementException",
        "int dismiss(int) IndexOutOfBoundsException IllegalStateException",
        "int match()",
        "int mostHires()",
        "int mostHiresBySets()",
        "int blockingPairs()",
        "int blockingPairsByPreference()",
        "int passDays(int) IllegalArgumentException",
        "int day()",
        "int daysUntilDismissal(int) NoSuchElementException",
        "int dailyWages()",
        "double meanScore() ArithmeticException",
        "float filledFraction() ArithmeticException",
        "int writeApplicant(int) NoSuchElementException",
        "int writePosts()",
        "char outputCharacter(int) IndexOutOfBoundsException",
        "boolean isConsistent()",
        "int feed(char) IllegalStateException",
        "int execute() IllegalArgumentException UnsupportedOperationException",
        "int errorPosition() NoSuchElementException",
        "int failedCommand() NoSuchElementException",
        "int undo() IllegalStateException",
        "int undoCount()",
        "int save()",
        "int restore() IllegalStateException",
    };

    public static void main(String[] args) {
        Set<String> found = new TreeSet<>();
        Set<String> publicNames = new TreeSet<>();
        for (Method method : CloudInterviews.class.getDeclaredMethods()) {
            if (!Modifier.isPrivate(method.getModifiers())) {
                found.add(signature(method));
                publicNames.add(method.getName());
            }
        }
        Check.due("the methods", new TreeSet<>(Arrays.asList(FACE)), () -> found);
        for (Method method : CloudInterviews.class.getDeclaredMethods()) {
            boolean hidden = Modifier.isPrivate(method.getModifiers());
            Check.due("no private " + method.getName(), false, () -> hidden && publicNames.contains(method.getName()));
            Check.due("no lambda " + method.getName(), false, method::isSynthetic);
        }
        for (Field field : CloudInterviews.class.getDeclaredFields()) {
            Check.due("the field " + field.getName(), true, () -> Modifier.isPrivate(field.getModifiers()));
        }
        Constructor<?>[] constructors = CloudInterviews.class.getConstructors();
        Check.due("the constructors", 1, () -> constructors.length);
        Check.due("its parameters", 0, () -> constructors[0].getParameterCount());
        Check.due("the class", "public final", () -> Modifier.toString(CloudInterviews.class.getModifiers()));
        Check.finish("FaceTest");
    }

    private static String signature(Method method) {
        StringBuilder text = new StringBuilder();
        text.append(method.getReturnType().getName()).append(' ').append(method.getName()).append('(');
        for (Class<?> type : method.getParameterTypes()) {
            text.append(text.charAt(text.length() - 1) == '(' ? "" : ",").append(type.getName());
        }
        text.append(')');
        for (Class<?> thrown : method.getExceptionTypes()) {
            text.append(' ').append(thrown.getSimpleName());
        }
        return text.toString();
    }
}
