import java.lang.reflect.Constructor;
import java.lang.reflect.Field;
import java.lang.reflect.Method;
import java.lang.reflect.Modifier;
import java.util.TreeSet;

/** The public face: the document's constructor and methods, and nothing else that can be seen from outside. */
public final class FaceTest {
    private static final Check CHECK = new Check("FaceTest");

    private static final String FACE = """
        int addPort() IllegalState
        int addLeg(int,int,int,int) IndexOutOfBounds IllegalArgument IllegalState
        int removeLeg(int,int) IndexOutOfBounds NoSuchElement
        int portCount()
        int legCount()
        boolean hasLeg(int,int) IndexOutOfBounds
        int lengthOf(int,int) IndexOutOfBounds NoSuchElement
        int reachOf(int,int) IndexOutOfBounds NoSuchElement
        int meterOf(int,int) IndexOutOfBounds NoSuchElement
        boolean isLit(int,int) IndexOutOfBounds NoSuchElement
        int lowerPortAt(int) IndexOutOfBounds
        int upperPortAt(int) IndexOutOfBounds
        int distance(int,int) IndexOutOfBounds NoSuchElement
        int distanceByRounds(int,int) IndexOutOfBounds NoSuchElement
        int litDistance(int,int) IndexOutOfBounds NoSuchElement
        int neededRange(int,int) IndexOutOfBounds IllegalArgument NoSuchElement
        int neededRangeByTrial(int,int) IndexOutOfBounds IllegalArgument NoSuchElement
        int litGroups()
        int subscribe(int,int,int) IndexOutOfBounds IllegalArgument IllegalState UnsupportedOperation
        int leave(int) IndexOutOfBounds
        int deposit(int,int) IndexOutOfBounds IllegalArgument
        int subscriberCount()
        int startOf(int) IndexOutOfBounds
        int goalOf(int) IndexOutOfBounds
        int moneyOf(int) IndexOutOfBounds
        int needOf(int) IndexOutOfBounds NoSuchElement
        int litNightsOf(int) IndexOutOfBounds
        int darkNightsOf(int) IndexOutOfBounds
        int shareOf(int) IndexOutOfBounds NoSuchElement
        int shareByOrders(int) IndexOutOfBounds NoSuchElement
        int subscriberByDark(int) NoSuchElement
        int setFog(int) IllegalArgument
        int fogNights()
        int night()
        boolean wouldBeLit(int) IndexOutOfBounds
        int nextRange()
        int range()
        int nightCount()
        int costOf(int) IllegalArgument
        long fund()
        long refunded()
        double meanMoney() Arithmetic
        float litShare() Arithmetic
        int writeSubscriber(int) IndexOutOfBounds
        int writeLeg(int) IndexOutOfBounds
        char lineAt(int) IndexOutOfBounds
        boolean isConsistent()
        int type(char) IllegalArgument IllegalState
        int execute() IllegalArgument IllegalState
        int errorPosition() NoSuchElement
        int failedCommand() NoSuchElement
        int undo() IllegalState
        int save()
        int restore() IllegalState
        """;

    public static void main(String[] args) {
        CHECK.yes("the class is final", Modifier.isFinal(HarborLights.class.getModifiers()));
        CHECK.yes("the class is public", Modifier.isPublic(HarborLights.class.getModifiers()));
        methods();
        constructors();
        for (Field field : HarborLights.class.getDeclaredFields()) {
            CHECK.yes("private " + field, Modifier.isPrivate(field.getModifiers()));
            boolean changing = Modifier.isStatic(field.getModifiers()) && !Modifier.isFinal(field.getModifiers());
            CHECK.no("static state " + field, changing);
        }
        CHECK.end();
    }

    private static void methods() {
        TreeSet<String> due = new TreeSet<>(FACE.strip().lines().map(String::strip).toList());
        TreeSet<String> publicNames = new TreeSet<>();
        TreeSet<String> got = new TreeSet<>();
        for (Method method : HarborLights.class.getDeclaredMethods()) {
            if (!Modifier.isPrivate(method.getModifiers())) {
                CHECK.yes("public, and of each object: " + method, method.getModifiers() == Modifier.PUBLIC);
                got.add(describe(method));
                publicNames.add(method.getName());
            }
        }
        CHECK.equal("the methods", String.join("\n", got), String.join("\n", due));
        for (Method method : HarborLights.class.getDeclaredMethods()) {
            boolean hidden = Modifier.isPrivate(method.getModifiers());
            CHECK.no("a public method's name: " + method, hidden && publicNames.contains(method.getName()));
        }
    }

    private static void constructors() {
        Constructor<?>[] constructors = HarborLights.class.getDeclaredConstructors();
        CHECK.equal("constructors", constructors.length, 1);
        CHECK.equal("its parameters", constructors[0].getParameterCount(), 0);
        CHECK.yes("it is public", Modifier.isPublic(constructors[0].getModifiers()));
    }

    private static String describe(Method method) {
        StringBuilder text = new StringBuilder(method.getReturnType().getName());
        text.append(' ').append(method.getName()).append('(');
        for (Class<?> parameter : method.getParameterTypes()) {
            text.append(text.charAt(text.length() - 1) == '(' ? "" : ",").append(parameter.getName());
        }
        text.append(')');
        for (Class<?> exception : method.getExceptionTypes()) {
            text.append(' ').append(exception.getSimpleName().replace("Exception", ""));
        }
        return text.toString();
    }
}
