/** All that can be seen of an object: two that were told the same must show the same. */
final class Seen {
    private Seen() {
    }

    /** What calls tell that change nothing: all but the TAPE and fault(). */
    static String of(TwelveChain x) {
        StringBuilder s = new StringBuilder();
        heads(x, s);
        for (int i = 0; i < x.look(0); i++) {
            s.append("\nlink ").append(i).append(':');
            for (int what = 0; what < 14; what++) {
                s.append(' ').append(x.of(i, what));
            }
            s.append(" phone");
            for (int what = 0; what < 3; what++) {
                s.append(' ').append(x.phone(i, what));
            }
        }
        int lines = x.look(6);
        // the latest lines alone: a run has 512 calls
        for (int i = Math.max(0, lines - 8); i < lines; i++) {
            s.append("\nline ").append(i).append(':');
            for (int what = 0; what < 4; what++) {
                s.append(' ').append(x.book(i, what));
            }
        }
        return s.toString();
    }

    private static void heads(TwelveChain x, StringBuilder s) {
        s.append("look:");
        for (int what = 0; what < 13; what++) {
            s.append(' ').append(x.look(what));
        }
    }

    private static String heads(TwelveChain x) {
        StringBuilder s = new StringBuilder();
        heads(x, s);
        return s.toString();
    }

    static void alike(String label, String got, String due) {
        Due.so(label + ": \n" + got + "\n where this is due: \n" + due, got.equals(due));
    }

    /** The first one must show what the second one shows, now, behind each UNDO, and from THE IMAGE on. */
    static void same(String label, TwelveChain x, TwelveChain y) {
        alike(label + ": what is", of(x), of(y));
        for (int i = 0; i < 7; i++) {
            boolean more = y.undo();
            Due.is(label + ": undo " + i, x.undo(), more);
            if (!more) {
                break;
            }
            alike(label + ": behind undo " + i, heads(x), heads(y));
        }
        boolean image = y.image(false);
        Due.is(label + ": an image", x.image(false), image);
        if (image) {
            alike(label + ": the image", of(x), of(y));
        }
    }

    /** The TAPE has so many bytes: found by calls that leave it so. */
    static void tape(String label, TwelveChain x, int bytes) {
        Due.is(label + ": not more than " + bytes + " bytes", x.end(bytes + 1), false);
        Due.is(label + ": " + bytes + " bytes", x.end(bytes), true);
    }
}
