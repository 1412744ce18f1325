/** A call of the face by its name. */
final class Calls {
    private Calls() {
    }

    /** a: four numbers, of which the call takes as many as it wants. */
    static int of(EmberTale x, String name, int[] a) {
        switch (name) {
            case "write": return x.write(a[0]);
            case "wipe": return x.wipe();
            case "fault": return x.fault();
            case "lay": return x.lay();
            case "line": return x.line(a[0], a[1]);
            case "rain": return x.rain(a[0]);
            case "company": return x.company(a[0], a[1]);
            case "put": return x.put(a[0], a[1]);
            case "pass": return x.pass(a[0]);
            case "light": return x.light(a[0], a[1]);
            case "join": return x.join(a[0], a[1]);
            case "hand": return x.hand(a[0], a[1], a[2]);
            case "undo": return x.undo();
            case "lasts": return x.lasts(a[0]);
            case "stays": return x.stays(a[0], a[1], a[2]);
            case "tell": return x.tell(a[0], a[1], a[2]);
            case "meet": return x.meet(a[0], a[1], a[2]);
            case "can": return x.can(a[0]);
            case "give": return x.give(a[0], a[1], a[2]);
            case "see": return x.see(a[0]);
            case "forget": return x.forget();
            case "from": return x.from(a[0]);
            case "rows": return x.rows(a[0], a[1], a[2]);
            case "rains": return x.rains(a[0], a[1], a[2], a[3]);
            case "winter": return x.winter(a[0], a[1], a[2]);
            case "keep": return x.keep();
            case "back": return x.back();
            case "count": return x.count(a[0]);
            default: throw new IllegalArgumentException(name);
        }
    }
}
