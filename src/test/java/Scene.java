/** Objects in the midst of much, the tests' helper. */
final class Scene {
    static final String RICH = "slice 5; word 0 70 7; word 0 71 8; join 0 0 1 1;"
            + "s: ldc 70; ldc 0; ldc 3; out; stopp; t: ldc 200; tin; stopp;"
            + "c: alt; ldc 2; ldc 1; enbc; altwt; stopp;"
            + "p: ldlp 1; ldc 60; ldc 1; out; stopp; q: ldlp 1; ldc 60; ldc 1; in; stopp; l: adc 1; j l;"
            + "run 0 20 1 s; run 0 30 1 t; run 0 40 1 p; run 0 50 1 q; run 0 80 1 l; run 1 20 0 c;";

    private Scene() {
    }

    /** One runs, one is INTERRUPTED, TIMERS, a BUFFER that is FULL, an ALT, a MEETING, ACTS, one kept, half a text. */
    static MeetingMachines rich() {
        MeetingMachines x = Due.of(RICH);
        x.tick(42);
        x.keep(0);
        x.slice(9);
        x.poke(0, 90, 44);
        x.start(0, 85, 0, 5);
        x.tick(1);
        Due.tape(x, "slice 3; halt; hal");
        return x;
    }

    /** A made PROGRAM, so many TICKS on. */
    static MeetingMachines made(int seed, int ticks) {
        MeetingMachines x = new MeetingMachines();
        Due.tape(x, new Tales(seed).program());
        x.text();
        x.tick(ticks);
        return x;
    }
}
