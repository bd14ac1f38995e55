import java.lang.reflect.Constructor;
import java.lang.reflect.Method;
import java.lang.reflect.Modifier;
import java.nio.file.Files;
import java.nio.file.Path;
import java.util.ArrayList;
import java.util.List;
import java.util.regex.Matcher;
import java.util.regex.Pattern;

/** What can be read from DOC.md itself, and sentences of "What it is" and "Terms" that no other test asks alone. */
public final class DocumentTest {
    private static final long BEYOND = Due.BEYOND;
    private static final long NONE = Due.NONE;
    private static final long STATE = Due.STATE;
    private static final int LAST_CALL = 512;

    public static void main(String[] args) throws Exception {
        String document = Files.readString(Path.of("../shared/DOC.md"));
        String program = Files.readString(Path.of("src/main/java/AfterDesk.java"));
        List<String> face = faceOf(document);
        faceIsThatOfTheDocument(face);
        faceStandsInTheOrderOfTheDocument(face, program);
        promisesAreOfTheseCalls(document, face);
        interfaceSaysItsSections(document, program);
        allAnswerLongs();
        lastCallAnswers();
        lastCallOfTheDearest();
        lastCallCountsAllFindings();
        spansAreThoseOfNow();
        timesAreWholeNumbers();
        quarrelOfSomeIsAQuarrelOfAll();
        quarrelNeedsAllOfItsTraces();
        marksMayBeInSeveralRows();
        storiesAskNothingOfTimes();
        timesAskNothingOfStories();
        sureIsOfLeastStoriesAlone();
        numbersThatWaitAskNothing();
        Due.end();
    }

    /** The members of the face as DOC.md writes them, the constructor first. */
    private static List<String> faceOf(String document) {
        Matcher block = Pattern.compile("```java\n(.*?)```", Pattern.DOTALL).matcher(document);
        Due.holds("DOC.md has a face", block.find());
        List<String> face = new ArrayList<>();
        for (String line : block.group(1).split("\n")) {
            if (line.endsWith(");")) {
                face.add(line.trim());
            }
        }
        Due.is("the constructor and 28 calls", face.size(), 29);
        return face;
    }

    private static void faceIsThatOfTheDocument(List<String> face) {
        List<String> due = new ArrayList<>();
        for (String member : face) {
            due.add(member.replaceAll("(int|boolean) \\w+", "$1"));
        }
        List<String> got = new ArrayList<>();
        for (Constructor<?> constructor : AfterDesk.class.getConstructors()) {
            got.add("public AfterDesk(" + typesOf(constructor.getParameterTypes()) + ");");
        }
        for (Method method : AfterDesk.class.getDeclaredMethods()) {
            if (!Modifier.isPrivate(method.getModifiers())) {
                got.add("public " + method.getReturnType() + " " + method.getName() + "("
                    + typesOf(method.getParameterTypes()) + ");");
            }
        }
        due.sort(null);
        got.sort(null);
        Due.holds("the public face is that of DOC.md: " + got, got.equals(due));
        Due.is("no public field", AfterDesk.class.getFields().length, 0);
        Due.is("no public class inside", AfterDesk.class.getClasses().length, 0);
    }

    private static String typesOf(Class<?>[] types) {
        List<String> names = new ArrayList<>();
        for (Class<?> type : types) {
            names.add(type.getName());
        }
        return String.join(", ", names);
    }

    private static void faceStandsInTheOrderOfTheDocument(List<String> face, String program) {
        int last = 0;
        for (String member : face) {
            int place = program.indexOf("\n    " + member.replace(";", " {"));
            Due.holds("the class has, in the order of DOC.md: " + member, place > last);
            last = place;
        }
    }

    private static void promisesAreOfTheseCalls(String document, List<String> face) {
        Matcher promise = Pattern.compile("## Promise (\\d+): [^\n]+\n\n`([^`]+)`").matcher(document);
        int number = 0;
        while (promise.find() && number < face.size()) {
            Due.is("the promises are numbered", Integer.parseInt(promise.group(1)), number + 1);
            String due = face.get(number).replace("public ", "").replace(";", "");
            Due.holds("promise " + (number + 1) + " is of " + due, promise.group(2).equals(due));
            number++;
        }
        Due.is("29 promises", number, 29);
    }

    private static void interfaceSaysItsSections(String document, String program) {
        Matcher section = Pattern.compile("Ahead of the calls (.*?) the interface says: ---- (.*?)\\.\n").matcher(document);
        int sections = 0;
        while (section.find()) {
            sections++;
            int start = program.indexOf("\n    // ---- " + section.group(2) + "\n");
            Due.holds("the interface says: ---- " + section.group(2), start >= 0);
            int end = program.indexOf("\n    // ---- ", start + 1);
            String part = program.substring(Math.max(start, 0), end < 0 ? program.length() : end);
            List<String> names = new ArrayList<>();
            Matcher call = Pattern.compile("\n    public long (\\w+)\\(").matcher(part);
            while (call.find()) {
                names.add("`" + call.group(1) + "`");
            }
            Due.holds(section.group(2) + " is ahead of " + names, String.join(", ", names).equals(section.group(1)));
        }
        Due.is("five sections", sections, 5);
    }

    private static void allAnswerLongs() {
        for (Method method : AfterDesk.class.getMethods()) {
            if (method.getDeclaringClass() == AfterDesk.class) {
                Due.holds(method.getName() + " answers a long", method.getReturnType() == long.class);
            }
        }
    }

    private static void lastCallAnswers() {
        AfterDesk x = new AfterDesk();
        x.piece(0, 0, -1, 1);
        for (int call = 2; call < LAST_CALL; call += 2) {
            Due.is("call " + call, x.trace(0, 0, 7, 3), 0);
            Due.is("call " + (call + 1), x.drop(), 0);
        }
        Due.is("the last call", x.trace(0, 0, 7, 3), 0);
    }

    /** All limits are reached, and with each change all that is kept must be found again. */
    private static void lastCallOfTheDearest() {
        AfterDesk x = new AfterDesk();
        int calls = 0;
        for (int d = 0; d < 10; d++) {
            x.deed(d, 0, 0, 65535, 0);
            calls++;
        }
        while (calls < LAST_CALL) {
            x.prices(calls % 7, 0);
            Due.is("stories at call " + (calls + 2), x.many(), calls % 7 == 0 ? 1024 : 1);
            calls += 2;
        }
        Due.is("as many calls as there may be", calls, LAST_CALL);
        AfterDesk y = Desks.FULL.make();
        for (int more = 0; more < 300; more++) {
            Due.is("no quarrel of twelve", y.quarrel(), NONE);
        }
    }

    private static void lastCallCountsAllFindings() {
        AfterDesk x = new AfterDesk();
        for (int call = 1; call < LAST_CALL; call++) {
            x.reset(4);
        }
        Due.is("findings of all calls but the last", x.found(1), LAST_CALL - 1);
    }

    /** "by the PIECE in which its READING is": a PIECE that comes later takes over the readings from its own on. */
    private static void spansAreThoseOfNow() {
        AfterDesk x = new AfterDesk();
        x.trace(0, 0, 50, 0);
        Due.is("no piece", x.span(0, false), NONE);
        x.piece(0, 10, 1, 2);
        Due.is("the first piece", x.span(0, true), 52);
        x.piece(0, 50, 3, 4);
        Due.is("a later piece", x.span(0, true), 54);
        Due.is("its earliest time, too", x.time(0, false), 53);
        x.piece(0, 51, 8, 9);
        Due.is("a piece behind it", x.span(0, true), 54);
        x.reset(0);
        Due.is("no piece again", x.span(0, true), NONE);
        x.piece(0, 0, -50, -50);
        Due.is("true time 0", x.span(0, false), 0);
        Due.is("true time 0 is no finding", x.time(0, true), 0);
    }

    /** "TIMES (whole numbers)": between 10 and 11 there is no time. */
    private static void timesAreWholeNumbers() {
        AfterDesk x = new AfterDesk();
        x.piece(0, 0, 0, 0);
        x.trace(0, 0, 10, 0);
        x.trace(0, 1, 0, 0);
        x.trace(0, 0, 11, 0);
        x.tie(0, 1, 1);
        Due.is("behind by more than 0", x.time(1, false), 11);
        x.tie(1, 2, 1);
        Due.is("none between", x.time(1, false), STATE);
        Due.is("all three are needed", x.quarrel(), 7);
        x.untie(1);
        x.tie(1, 2, 0);
        Due.is("at the end itself", x.time(1, true), 11);
    }

    /** "all TIES between these hold": a TIE to one that isn't among them doesn't count. */
    private static void quarrelOfSomeIsAQuarrelOfAll() {
        AfterDesk x = new AfterDesk();
        x.piece(0, 0, 0, 5);
        for (int i = 0; i < 4; i++) {
            x.trace(0, i == 3 ? 1 : 0, 10, 0);
        }
        x.tie(0, 3, 3);
        x.tie(3, 1, 3);
        Due.is("over one without ends", x.quarrel(), 11);
        Due.is("no good times of all", x.time(2, false), STATE);
        Due.is("good times without the one between", x.without(2, 3, false), 10);
        Due.is("its ties don't count then", x.without(0, 3, true), 15);
        Due.is("no good times without another", x.without(0, 2, true), STATE);
    }

    /** Where there is one QUARREL alone, the rest has GOOD TIMES just if one of its TRACES is left out. */
    private static void quarrelNeedsAllOfItsTraces() {
        AfterDesk x = Desks.QUARRELLING.make();
        long quarrel = x.quarrel();
        for (int other = 0; other < 5; other++) {
            boolean good = x.without(other == 4 ? 3 : 4, other, false) != STATE;
            Due.holds("without " + other, good == ((quarrel >> other & 1) != 0));
        }
    }

    /** "a MARK may be in several of these". */
    private static void marksMayBeInSeveralRows() {
        long[] notThere = {0, STATE, 10, STATE, 0, 0, 0, 0};
        long[] there = {25, 0, 0, 0, 25, 0, 0, 0};
        for (int rows = 0; rows < 8; rows++) {
            AfterDesk x = new AfterDesk();
            x.deed(0, 0, (rows & 1) * 32, (rows >> 1 & 1) * 32, (rows >> 2 & 1) * 32);
            Due.is("always, mostly, wipes " + rows + ", not there", x.cost(1), notThere[rows]);
            x.trace(2, 0, 0, 5);
            Due.is("always, mostly, wipes " + rows + ", there", x.cost(1), there[rows]);
        }
    }

    /** A STORY explains MARKS: whether the TRACES have GOOD TIMES doesn't matter to it. */
    private static void storiesAskNothingOfTimes() {
        AfterDesk x = Desks.PLAIN.make();
        AfterDesk y = Desks.QUARRELLING.make();
        for (String call : new String[] {"least", "many", "story 1", "sure 0", "sure 5", "parts 8", "ask", "cost 6"}) {
            Due.is(call + " of a quarrel", Calls.answer(y, call), Calls.answer(x, call));
        }
    }

    private static void timesAskNothingOfStories() {
        AfterDesk x = Desks.PLAIN.make();
        AfterDesk y = Desks.STORYLESS.make();
        for (String call : new String[] {"time 0 false", "time 2 true", "apart 0 2 true", "without 2 0 false", "quarrel"}) {
            Due.is(call + " without stories", Calls.answer(y, call), Calls.answer(x, call));
        }
    }

    /** A POSSIBLE STORY that costs more than the least counts for nothing. */
    private static void sureIsOfLeastStoriesAlone() {
        AfterDesk x = new AfterDesk();
        x.trace(0, 0, 0, 0);
        x.deed(0, 1, 1, 0, 0);
        x.deed(1, 2, 1, 4, 4);
        x.deed(2, 2, 0, 1, 0);
        Due.is("the least one alone", x.many(), 1);
        Due.is("it is sure", x.sure(0), 1);
        Due.is("a dearer one is out", x.sure(1), -1);
        Due.is("another dearer one is out", x.sure(2), -1);
        Due.is("nothing parts one", x.parts(2), 0);
        x.deed(0, 2, 1, 0, 0);
        Due.is("at one price all three", x.many(), 3);
        Due.is("by their bits", x.story(2), 4);
    }

    private static void numbersThatWaitAskNothing() {
        AfterDesk x = new AfterDesk();
        x.tell(5);
        x.tell(6);
        x.piece(0, 0, 5, 6);
        Due.is("they wait", x.trace(0, 0, 0, 0), 0);
        Due.is("they are asked by check() alone", x.count(3), 2);
        Due.is("of the traces of then", x.check(), 0);
        Due.is("none wait", x.count(3), 0);
        Due.is("a wrong call takes none", x.about(1, 0), BEYOND);
    }
}
