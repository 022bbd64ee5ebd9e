/** Promise 2: characters 32 .. 126 are appended, 50 of them at most. */
public final class Promise02WriteTest {
    public static void main(String[] args) {
        characters();
        fiftyAtMost();
        refusedOnesAreNotInTheLine();
        roomAgainBehindReading();
        Probe.end();
    }

    private static void characters() {
        int[] good = {32, 33, 48, 65, 90, 97, 122, 125, 126};
        int[] bad = {0, 9, 10, 13, 31, 127, 128, 160, 255, 256, 32 + 256, 97 + 256, 32767, 32768, 65535};
        Probe x = new Probe();
        for (int c : good) {
            Probe.due("write " + c, x.write((char) c), true);
        }
        for (int c : bad) {
            Probe.due("write " + c, x.write((char) c), false);
        }
    }

    private static void fiftyAtMost() {
        Probe x = new Probe();
        for (int i = 0; i < 50; i++) {
            Probe.due("write no. " + i, x.write(' '), true);
        }
        Probe.due("51st", x.write(' '), false);
        Probe.due("52nd", x.write('a'), false);
        Probe.due("fifty blanks", x.line(), 0);

        String line = "state a in top whole";
        x.writeAll(" ".repeat(50 - line.length()) + line);
        Probe.due("51st that would spoil the line", x.write('x'), false);
        Probe.due("line of fifty", x.line(), 1);
    }

    private static void refusedOnesAreNotInTheLine() {
        Probe x = new Probe();
        x.writeAll("state a");
        x.write((char) 9);
        x.write((char) 127);
        x.write((char) 0);
        x.writeAll(" in top");
        Probe.due("line with refused characters", x.line(), 1);
        Probe.due("tab between words is no blank", separatedByTab(), Probe.ARGUMENT);
    }

    private static int separatedByTab() {
        Probe x = new Probe();
        x.writeAll("state");
        x.write((char) 9);
        x.writeAll("a in top");
        return x.line();
    }

    private static void roomAgainBehindReading() {
        Probe x = new Probe();
        x.writeAll("x".repeat(50));
        Probe.due("full", x.write('x'), false);
        Probe.due("no line", x.line(), Probe.ARGUMENT);
        Probe.due("room again", x.write(' '), true);
        x.writeAll("y".repeat(49));
        Probe.due("full again", x.write('x'), false);
        Probe.due("no name", x.named(), Probe.ELEMENT);
        Probe.due("room once more", x.write('t'), true);
        x.writeAll("op");
        Probe.due("top", x.named(), 0);
    }
}
