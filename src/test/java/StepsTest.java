/** Promises 26, 64, 65, 66: steps that are taken back, the image, and what is about. */
final class StepsTest {
    private static final Due due = new Due();

    public static void main(String[] args) {
        undo();
        eachStep();
        twentySteps();
        whatStays();
        image();
        imageKeepsSteps();
        about();
        due.end("StepsTest");
    }

    private static void undo() {
        PatchedColumns x = new PatchedColumns();
        due.is("undo of none", x.undo(), Made.NONE);
        x.put(1);
        x.put(2);
        x.flush(0);
        x.put(3);
        x.tell(9);
        x.flush(1);
        x.put(4);
        due.is("undo", x.undo(), 1);
        due.is("column 1", x.column(1, 0), 0);
        due.is("pending as ahead of it", x.about(0), 1);
        due.is("pending(0)", x.pending(0), 3);
        due.is("X", x.about(3), 9);
        due.is("undo", x.undo(), 0);
        due.is("pending as ahead of it", x.about(0), 2);
        due.is("X as ahead of it", x.about(3), 647);
        due.is("undo of none any more", x.undo(), Made.NONE);
        due.is("pending stays", x.about(0), 2);
    }

    private static void eachStep() {
        PatchedColumns x = Made.with(1, 2, 3, 4);
        Made.block(x, 1, 1, 5);
        String first = Made.shown(x, 0) + Made.shown(x, 1) + Made.shown(x, 2);
        for (int i = 0; i <= 14; i++) {
            x.put(7);
            step(x, i);
            due.is("step " + i, x.about(1), 3);
            due.is("undo " + i, x.undo(), 2);
            String back = Made.shown(x, 0) + Made.shown(x, 1) + Made.shown(x, 2);
            due.yes("as ahead of step " + i, back.equals(first));
            due.is("X as ahead of step " + i, x.about(3), 647);
            x.forget();
            x.end(0);
        }
    }

    private static void step(PatchedColumns x, int i) {
        switch (i) {
            case 0: x.flush(0); break;
            case 1: x.set(0, 1, 8); break;
            case 2: x.clear(0, 1); break;
            case 3: x.insert(0, 1, 8); break;
            case 4: x.remove(0, 1); break;
            case 5: x.split(0, 0, 1); break;
            case 6: x.shift(0, 1); break;
            case 7: x.merge(0, 1, 1); break;
            case 8: x.copy(0, 1, 3, 1); break;
            case 9: x.swap(0, 1); break;
            case 10: x.drop(0, 0); break;
            case 11: x.join(0); break;
            case 12: x.recut(0); break;
            case 13: x.walk(2, 1, 2, 3); break;
            default: x.save(1); x.open(0);
        }
    }

    private static void twentySteps() {
        PatchedColumns x = Made.with(0);
        for (int i = 1; i <= 25; i++) {
            x.set(0, 0, i);
            due.is("steps", x.about(1), Math.min(20, i + 1));
        }
        for (int i = 19; i >= 0; i--) {
            due.is("undo", x.undo(), i);
            due.is("value", x.value(0, 0), i + 5);
        }
        due.is("undo the 21st", x.undo(), Made.NONE);
        due.is("value", x.value(0, 0), 5);
        x.set(0, 0, 77);
        due.is("a step again", x.undo(), 0);
        due.is("value", x.value(0, 0), 5);
    }

    private static void whatStays() {
        PatchedColumns x = Made.with(1, 2);
        x.save(0);
        int words = x.about(2);
        x.undo();
        due.is("the tape stays", x.about(2), words);
        due.is("open it then", x.open(1), 2);
        x.word(0);
        due.is("a fault is no step", x.open(1), Made.NONE);
        due.is("steps", x.about(1), 1);
    }

    private static void image() {
        PatchedColumns x = Made.with(1, 2);
        Made.block(x, 2, 9);
        x.put(4);
        x.tell(5);
        due.is("image", x.image(), 3);
        x.walk(0, 0, 5, 20);
        x.drop(2, 0);
        x.forget();
        x.word(3);
        due.is("back", x.back(), 3);
        due.yes("columns", Made.shown(x, 0).equals("1 2 |") && Made.shown(x, 2).equals("9 |"));
        due.is("pending", x.pending(0), 4);
        due.is("X", x.about(3), 5);
        due.is("the tape stays", x.about(2), 1);
        x.swap(0, 2);
        x.set(0, 0, 3);
        due.is("back again: it stays", x.back(), 3);
        due.yes("columns again", Made.shown(x, 0).equals("1 2 |"));
        x.drop(0, 0);
        due.is("another image", x.image(), 1);
        due.is("back to it", x.back(), 1);
        due.is("column 0", x.column(0, 0), 0);
    }

    private static void imageKeepsSteps() {
        PatchedColumns x = Made.with(0);
        for (int i = 1; i <= 30; i++) {
            x.set(0, 0, i);
        }
        x.undo();
        due.is("image", x.image(), 1);
        for (int i = 0; i < 15; i++) {
            x.undo();
        }
        x.set(0, 0, 100);
        x.set(0, 0, 101);
        due.is("steps", x.about(1), 6);
        due.is("back", x.back(), 1);
        due.is("steps as they were", x.about(1), 19);
        due.is("value", x.value(0, 0), 29);
        for (int i = 18; i >= 0; i--) {
            due.is("undo", x.undo(), i);
            due.is("value", x.value(0, 0), i + 10);
        }
        due.is("back with its steps again", x.back(), 1);
        due.is("steps", x.about(1), 19);
    }

    private static void about() {
        PatchedColumns x = new PatchedColumns();
        x.put(1);
        x.gap();
        x.tell(77);
        x.word(1);
        x.word(2);
        x.word(3);
        x.join(0);
        due.is("about(0)", x.about(0), 2);
        due.is("about(1)", x.about(1), 1);
        due.is("about(2)", x.about(2), 3);
        due.is("about(3)", x.about(3), 77);
        due.is("about(4)", x.about(4), Made.NONE);
        due.is("about(-1)", x.about(-1), Made.NONE);
        due.is("about(MIN)", x.about(Made.MIN), Made.NONE);
    }
}
