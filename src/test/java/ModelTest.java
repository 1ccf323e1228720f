import java.lang.reflect.InvocationTargetException;
import java.lang.reflect.Method;
import java.util.ArrayList;
import java.util.Arrays;
import java.util.Comparator;
import java.util.HashMap;
import java.util.List;
import java.util.Map;

/** Every promise: drawn runs of calls, each answered as by the model. A first argument tells how many runs. */
public final class ModelTest {
    private static final Check CHECK = new Check();
    private static final String[] TEXTS = {"park", "law", "work", "songs"};
    private static final List<String> NUMBERS = List.of("feed", "park", "law", "work", "songs", "fault", "undo", "told", "walk",
        "child", "hoop", "minutes", "would", "lasts", "ahead", "due", "hour", "late", "match", "matched", "fits", "listen",
        "safe", "mean", "stands", "cover", "watch", "toffee", "share", "quickest", "debtor", "idle", "bowls", "load",
        "slowest", "days", "span", "image", "restore", "status", "count");
    private static final Method[] FACE = Arrays.stream(HoopHours.class.getDeclaredMethods())
        .filter(method -> NUMBERS.contains(method.getName()))
        .sorted(Comparator.comparing(Method::getName))
        .toArray(Method[]::new);
    private static final Map<String, Method> MODEL = new HashMap<>();
    private static long seed = 20261119;
    private static int walks;
    private static int children;
    private static int hoops;

    public static void main(String[] args) throws ReflectiveOperationException {
        for (Method method : Model.class.getDeclaredMethods()) {
            if (!java.lang.reflect.Modifier.isPrivate(method.getModifiers())) {
                MODEL.put(method.getName(), method);
            }
        }
        int runs = args.length > 0 ? Integer.parseInt(args[0]) : 150;
        for (int run = 0; run < runs; run++) {
            oneRun(run);
        }
        CHECK.end();
    }

    /** At most 512 calls on one object. */
    private static void oneRun(int run) throws ReflectiveOperationException {
        HoopHours x = new HoopHours();
        Model y = new Model();
        StringBuilder told = new StringBuilder("run " + run + ":");
        int calls = 0;
        walks = 0;
        children = 0;
        hoops = 0;
        calls += tell(x, y, told, "park", drawPark());
        for (int i = 0; i < 1000 && calls < 500; i++) {
            int kind = draw(100);
            if (kind < 1) {
                calls += tell(x, y, told, "park", drawPark());
            } else if (kind < 4) {
                calls += tell(x, y, told, "law", drawLaw());
            } else if (kind < 12) {
                calls += tell(x, y, told, "work", drawWork());
            } else if (kind < 15) {
                calls += tell(x, y, told, "songs", drawSongs(y));
            } else if (kind < 20) {
                String[] some = {"undo", "image", "restore", "undo", "undo"};
                calls += call(x, y, told, some[draw(5)], new int[0]);
            } else {
                Method method = FACE[draw(FACE.length)];
                if (method.getName().equals("feed") && draw(3) > 0) {
                    continue;
                }
                calls += call(x, y, told, method.getName(), drawNumbers(method.getParameterCount()));
            }
        }
    }

    private static int tell(HoopHours x, Model y, StringBuilder told, String what, String text)
            throws ReflectiveOperationException {
        while (x.count(1) > 0) {
            call(x, y, told, "law", new int[] {0});
        }
        String longer = text + "\0".repeat((20 - text.length() % 20) % 20);
        int calls = 2;
        for (int i = 0; i < longer.length(); i += 20) {
            int[] numbers = new int[5];
            for (int k = 0; k < 20; k++) {
                numbers[k / 4] |= longer.charAt(i + k) << 24 - k % 4 * 8;
            }
            calls += call(x, y, told, "feed", numbers);
        }
        told.append(" [").append(text).append("]");
        calls += call(x, y, told, what, new int[] {text.length()});
        walks = y.told(0);
        children = y.told(1);
        hoops = y.told(2);
        return calls;
    }

    private static int call(HoopHours x, Model y, StringBuilder told, String name, int[] numbers)
            throws ReflectiveOperationException {
        Method own = Arrays.stream(FACE).filter(method -> method.getName().equals(name)
            && method.getParameterCount() == numbers.length).findFirst().orElseThrow();
        boolean text = Arrays.asList(TEXTS).contains(name);
        Object[] plain = Arrays.stream(numbers).boxed().toArray();
        String got = answer(own, x, plain);
        String due = text ? answer(MODEL.get("text"), y, name, numbers[0])
            : name.equals("feed") ? answer(MODEL.get("feed"), y, (Object) numbers)
            : answer(modelOf(own), y, plain);
        if (!name.equals("feed")) {
            told.append(' ').append(name).append(Arrays.toString(numbers)).append('=').append(due);
        }
        if (!got.equals(due)) {
            System.out.println(told);
        }
        CHECK.promise(NUMBERS.indexOf(name) + 2, name);
        CHECK.is("as the model, which says " + due + " where the class says " + got, 1, got.equals(due) ? 1 : 0);
        return 1;
    }

    private static Method modelOf(Method own) throws ReflectiveOperationException {
        return Model.class.getDeclaredMethod(own.getName(), own.getParameterTypes());
    }

    private static String answer(Method method, Object of, Object... numbers) throws ReflectiveOperationException {
        try {
            return method.invoke(of, numbers).toString();
        } catch (InvocationTargetException e) {
            return e.getCause().getClass().getName();
        }
    }

    private static int draw(int below) {
        seed = seed * 6364136223846793005L + 1442695040888963407L;
        return (int) ((seed >>> 33) % below);
    }

    private static int[] drawNumbers(int many) {
        int[] numbers = new int[many];
        for (int i = 0; i < many; i++) {
            int[] some = {draw(3), draw(3), draw(9), draw(9), draw(17), draw(100), draw(256), draw(1 << walks), draw(1 << hoops),
                draw(1 << children), draw(1001), draw(202), -1, draw(1 << 30)};
            int kind = draw(60);
            numbers[i] = kind == 0 ? some[12] : kind == 1 ? -some[13] : kind == 2 ? some[13] : some[kind % 12];
        }
        return numbers;
    }

    private static String drawPark() {
        List<String> clauses = new ArrayList<>();
        int[] most = {draw(9), draw(9), draw(9)};
        for (int i = 0; i < most[0]; i++) {
            clauses.add("walk " + (1 + draw(20)) + " " + draw(17) + ";");
        }
        for (int i = 0; i < most[1]; i++) {
            clauses.add("child " + (1 + draw(9)) + " " + (3 + draw(12)) + ";");
        }
        for (int i = 0; i < most[2]; i++) {
            clauses.add("hoop " + (1 + draw(9)) + ";");
        }
        for (int i = draw(3); i > 0; i--) {
            clauses.add("long " + (1 + draw(draw(2) == 0 ? 40 : 500)) + ";");
        }
        for (int i = draw(3); i > 0; i--) {
            clauses.add("fine " + draw(21) + ";");
        }
        if (draw(20) == 0) {
            while (clauses.size() < 59 + draw(4)) {
                clauses.add("fine " + draw(21) + ";");
            }
        }
        java.util.Collections.shuffle(clauses, new java.util.Random(draw(1 << 20)));
        return spoiled(String.join("", clauses), 600);
    }

    private static String drawLaw() {
        for (int i = 0; i < 50; i++) {
            String law = drawSum(3 + draw(5));
            if (law.length() <= 150) {
                return spoiled(law, 150);
            }
        }
        return "bribe + tired";
    }

    private static String drawSum(int deep) {
        StringBuilder sum = new StringBuilder(drawTerm(deep));
        while (draw(5) < 2) {
            sum.append(draw(3) == 0 ? " " : "").append("+-".charAt(draw(2))).append(drawTerm(deep));
        }
        return sum.toString();
    }

    private static String drawTerm(int deep) {
        StringBuilder term = new StringBuilder(drawUnit(deep));
        while (draw(5) < 2) {
            term.append(draw(3) == 0 ? " " : "").append("*/%".charAt(draw(3))).append(drawUnit(deep));
        }
        return term.toString();
    }

    private static String drawUnit(int deep) {
        String[] words = {"length", "pace", "age", "weight", "tired", "rain", "walk", "hoop", "bribe"};
        int kind = draw(10);
        if (deep <= 0 || kind < 6) {
            return kind < 2 ? "" + draw(draw(3) == 0 ? 1003 : 12) : words[draw(9)];
        }
        return kind < 8 ? "(" + drawSum(deep - 1) + ")"
            : (kind == 8 ? "least" : "most [").replace("least", "least[") + drawSum(deep - 1) + "," + drawSum(deep - 1) + "]";
    }

    private static String drawWork() {
        for (int i = 0; i < 50; i++) {
            String work = drawSteps(draw(8) == 0 ? 7 : 2);
            if (work.length() <= 150) {
                return spoiled(work, 150);
            }
        }
        return "again 50 [roll;];";
    }

    private static String drawSteps(int deep) {
        StringBuilder steps = new StringBuilder();
        for (int i = draw(8); i >= 0; i--) {
            int child = draw(Math.max(1, children));
            switch (draw(deep > 0 ? 8 : 6)) {
                case 0:
                case 1:
                    steps.append("give ").append(draw(Math.max(1, hoops))).append(' ').append(child);
                    break;
                case 2:
                    steps.append("bribe ").append(child).append(' ').append(1 + draw(9));
                    break;
                case 3:
                    steps.append(draw(3) == 0 ? "rain" : "rest " + child);
                    break;
                case 4:
                case 5:
                    steps.append("roll");
                    break;
                default:
                    steps.append("again ").append(draw(draw(3) == 0 ? 61 : 8)).append('[').append(drawSteps(deep - 1)).append(']');
                    break;
            }
            steps.append(';');
        }
        return steps.toString();
    }

    /** Mostly what a child and a hoop make to be heard, so that some fit. */
    private static String drawSongs(Model y) {
        StringBuilder songs = new StringBuilder();
        boolean right = children > 0 && hoops > 0 && draw(3) > 0;
        int[] arrivals = right ? y.arrivals(draw(children), draw(hoops)) : new int[0];
        int first = 1 + draw(Math.max(1, walks - 1));
        for (int i = draw(4); i > 0; i--) {
            int gate = draw(10) == 0 ? 1 + draw(9) : 1 + (first + i) % Math.max(1, walks - 1);
            int minute = gate < arrivals.length ? arrivals[gate] : draw(draw(4) == 0 ? 1001 : 40);
            songs.append(gate).append(' ').append(minute).append(';');
        }
        return spoiled(songs.toString(), 60);
    }

    /** Now and then some signs of a text are other ones, fewer, or more. */
    private static String spoiled(String text, int most) {
        StringBuilder other = new StringBuilder(text);
        String signs = " ;[](),+-*/%0123456789 aehlorw\0\t\u00ffA";
        int changes = draw(4) == 0 ? 1 + draw(2) : 0;
        for (int i = 0; i < changes; i++) {
            int at = draw(other.length() + 1);
            int kind = draw(4);
            if (kind == 0) {
                other.setLength(at);
            } else if (kind == 1 && at < other.length()) {
                other.deleteCharAt(at);
            } else if (kind == 2 && at < other.length()) {
                other.setCharAt(at, signs.charAt(draw(signs.length())));
            } else {
                other.insert(at, signs.charAt(draw(signs.length())));
            }
        }
        for (int i = draw(4); i > 0; i--) {
            other.insert(draw(2) == 0 ? 0 : other.length(), ' ');
        }
        return other.length() > most ? other.substring(0, most) : other.toString();
    }
}
