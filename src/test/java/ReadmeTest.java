import java.io.IOException;
import java.nio.charset.StandardCharsets;
import java.nio.file.Files;
import java.nio.file.Path;

/** The answers that README.md tells behind its calls are those that the program gives. */
public final class ReadmeTest {
    private static String page;
    private static int calls = 0;

    private ReadmeTest() {
    }

    public static void main(String[] args) throws IOException {
        page = Files.readString(Path.of(args[0], "README.md"), StandardCharsets.UTF_8);
        PacketLaw law = new PacketLaw();
        makersAndFees(law);
        laws(law);
        schemesAndLoads(law);
        samples(law);
        everyAnswerIsTested();
        helperIsThisOne(Files.readString(Path.of(args[0], "src/test/java/ReadmeTest.java"), StandardCharsets.UTF_8));
        everyCallIsNamed();
        everyTestIsNamed(Path.of(args[0], "src/test/java"));
        Checks.end();
    }

    // README.md shows this method.
    static int tell(PacketLaw law, int year, String text) {
        byte[] bytes = java.util.Arrays.copyOf(text.getBytes(java.nio.charset.StandardCharsets.ISO_8859_1), 400);
        java.nio.ByteBuffer tape = java.nio.ByteBuffer.wrap(bytes);
        while (tape.position() < text.length()) {
            law.feed(tape.getInt(), tape.getInt(), tape.getInt(), tape.getInt(), tape.getInt());
        }
        return law.law(year, text.length());
    }

    /** The page has the call with this answer behind it, and the program gives it. */
    private static void shown(String call, String want, Checks.Call made) {
        Checks.due(call, want.equals("true") ? 1 : Long.parseLong(want), made);
        boolean stands = false;
        for (String line : page.split("\n")) {
            stands |= line.startsWith(call + ";") && line.substring(call.length() + 1).strip().matches("// " + want + "(:.*)?");
        }
        Checks.judge(call + " on the page", "true", String.valueOf(stands));
        calls++;
    }

    private static void makersAndFees(PacketLaw law) {
        Checks.part("makers, packets, fees");
        shown("int maker = law.maker()", "0", law::maker);
        shown("int packet = law.packet(maker)", "0", () -> law.packet(0));
        shown("law.make(packet, 10, 0, 0, 5, 0, 30)", "0", () -> law.make(0, 10, 0, 0, 5, 0, 30));
        shown("law.sold(packet, 0, 100, 20, 1)", "0", () -> law.sold(0, 0, 100, 20, 1));
        shown("law.kilos(packet, 0, 0)", "800", () -> law.kilos(0, 0, 0));
        shown("law.declare(maker, 0, 0, 800)", "1", () -> law.declare(0, 0, 0, 800));
        shown("law.fee(maker, 0, 0)", "80", () -> law.fee(0, 0, 0));
        shown("law.bill(maker, 0)", "80", () -> law.bill(0, 0));
        shown("law.bill(maker, 0)", "0", () -> law.bill(0, 0));
        shown("law.make(packet, 6, 0, 0, 0, 0, 30)", "1", () -> law.make(0, 6, 0, 0, 0, 0, 30));
        shown("law.cheapest(maker, 0, -1)", "3048", () -> law.cheapest(0, 0, -1));
        shown("law.cheapest(maker, 0, 0)", "1", () -> law.cheapest(0, 0, 0));
    }

    private static void laws(PacketLaw law) {
        Checks.part("laws");
        shown("law.feed(0x66656520, 0x70617065, 0x723d3230, 0x303b0000, 0)", "20", () -> law.feed(0x66656520, 0x70617065, 0x723d3230, 0x303b0000, 0));
        shown("law.law(0, 14)", "0", () -> law.law(0, 14));
        shown("law.bill(maker, 0)", "80", () -> law.bill(0, 0));
        shown("law.why(0, 0)", "0", () -> law.why(0, 0));
        shown("law.feed(0x66656520, 0x776f6f64, 0x3d353b00, 0, 0)", "20", () -> law.feed(0x66656520, 0x776f6f64, 0x3d353b00, 0, 0));
        shown("law.law(0, 11)", "-9", () -> law.law(0, 11));
        shown("law.fault()", "4", law::fault);
    }

    private static void schemesAndLoads(PacketLaw law) {
        Checks.part("schemes, loads, notes, offers");
        String text = "target paper 40;towns paper 100;";
        shown("tell(law, 0, \"" + text + "\")", "1", () -> tell(law, 0, text));
        shown("int scheme = law.scheme()", "0", law::scheme);
        shown("law.join(maker, scheme, 0)", "1", () -> law.join(0, 0, 0));
        shown("law.owes(scheme, 0, 0, 0, 1)", "320", () -> law.owes(0, 0, 0, 0, 1));
        shown("law.load(2, 500, 50, 0, 0, 30, 10)", "0", () -> law.load(2, 500, 50, 0, 0, 30, 10));
        shown("law.out(0, 0)", "225", () -> law.out(0, 0));
        shown("law.note(0, 0, 200, scheme)", "0", () -> law.note(0, 0, 200, 0));
        shown("law.note(0, 0, 50, scheme)", "1", () -> law.note(0, 0, 50, 0));
        shown("law.forged(1)", "true", () -> law.forged(1) ? 1 : 0);
        shown("law.owes(scheme, 0, 0, 0, 3)", "120", () -> law.owes(0, 0, 0, 0, 3));
        shown("law.offer(0, 150, 60)", "0", () -> law.offer(0, 150, 60));
        shown("law.buying(scheme, 0, 0, 1)", "1", () -> law.buying(0, 0, 0, 1));
        shown("law.buy(scheme, 0, 0)", "60", () -> law.buy(0, 0, 0));
        shown("law.pay(2, 0, scheme)", "7", () -> law.pay(2, 0, 0));
    }

    private static void samples(PacketLaw law) {
        Checks.part("samples");
        shown("law.sample(maker, 0, 0, 100, 64)", "1", () -> law.sample(0, 0, 0, 100, 64));
        shown("law.span(maker, 0, 0, 0)", "105", () -> law.span(0, 0, 0, 0));
        shown("law.span(maker, 0, 0, 1)", "182", () -> law.span(0, 0, 0, 1));
        shown("law.shy(maker, 0, 0)", "0", () -> law.shy(0, 0, 0));
    }

    private static void everyAnswerIsTested() {
        Checks.part("the page");
        int answers = 0;
        for (String line : page.split("\n")) {
            answers += line.matches(".*; +// (-?\\d+|true)(:.*)?") ? 1 : 0;
        }
        Checks.judge("answers on the page", String.valueOf(calls), String.valueOf(answers));
    }

    private static void helperIsThisOne(String source) {
        int start = page.indexOf("static int tell(");
        String shown = start < 0 ? "none" : page.substring(start, page.indexOf("```", start));
        Checks.judge("the method for texts", "true", String.valueOf(source.replaceAll("\\s+", " ").contains(shown.replaceAll("\\s+", " ").strip())));
    }

    private static void everyCallIsNamed() {
        for (java.lang.reflect.Method m : PacketLaw.class.getDeclaredMethods()) {
            if (java.lang.reflect.Modifier.isPublic(m.getModifiers())) {
                Checks.judge("the table names " + m.getName(), "true", String.valueOf(page.matches("(?s).*\\| [^\n]*`" + m.getName() + "`[^\n]* \\|.*")));
            }
        }
    }

    private static void everyTestIsNamed(Path folder) throws IOException {
        try (var files = Files.list(folder)) {
            for (Path file : (Iterable<Path>) files::iterator) {
                String name = file.getFileName().toString().replace(".java", "");
                if (name.endsWith("Test")) {
                    Checks.judge("the page names " + name, "true", String.valueOf(page.contains("`" + name + "`")));
                }
            }
        }
    }
}
