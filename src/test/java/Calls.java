/** The calls of the face by their names: so that a test can tell them as words and make them again. */
final class Calls {
    private Calls() {
    }

    static long make(EvenlyPoured tea, String name, int... a) {
        switch (name) {
            case "set": return tea.set(a[0], a[1], a[2]);
            case "told": return tea.told(a[0], a[1]);
            case "lay": return tea.lay(a[0], a[1]);
            case "at": return tea.at(a[0]);
            case "pourer": return tea.pourer(a[0], a[1]);
            case "feed": return tea.feed(a[0]);
            case "text": return tea.text();
            case "force": return tea.force(a[0]);
            case "cup": return tea.cup(a[0], a[1]);
            case "all": return tea.all(a[0]);
            case "mean": return tea.mean(a[0], a[1]);
            case "evenest": return tea.evenest(a[0]);
            case "become": return tea.become();
            case "fewest": return tea.fewest(a[0]);
            case "next": return tea.next(a[0]);
            case "poured": return tea.poured(a[0], a[1]);
            case "follow": return tea.follow(a[0]);
            case "which": return tea.which(a[0]);
            case "captains": return tea.captains(a[0]);
            case "tastes": return tea.tastes(a[0], a[1]);
            case "whom": return tea.whom(a[0]);
            case "forgotten": return tea.forgotten(a[0]);
            case "drawn": return tea.drawn(a[0], a[1]);
            case "chance": return tea.chance(a[0], a[1], a[2], a[3]);
            case "image": return tea.image();
            case "back": return tea.back();
            case "count": return tea.count(a[0]);
            case "sheet": return tea.sheet(a[0], a[1], a[2]);
            case "cell": return tea.cell(a[0], a[1], a[2]);
            case "copy": return tea.copy(a[0], a[1], a[2], a[3], a[4]);
            case "rows": return tea.rows(a[0], a[1], a[2], a[3]);
            case "taken": return tea.taken(a[0], a[1]);
            default: throw new IllegalArgumentException(name);
        }
    }
}
