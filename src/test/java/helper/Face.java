/** Calls of the face by name, so that runs of calls can be drawn and told. */
final class Face {
    private Face() {
    }

    static long call(MeshBiller x, String name, int[] a) {
        switch (name) {
            case "setZone": return x.setZone(a[0], a[1]);
            case "setChannels": return x.setChannels(a[0], a[1], a[2]);
            case "setRate": return x.setRate(a[0], a[1] == 1, a[2]);
            case "setSlice": return x.setSlice(a[0]);
            case "setCap": return x.setCap(a[0], a[1]);
            case "setWallet": return x.setWallet(a[0], a[1]);
            case "top": return x.top(a[0], a[1]);
            case "give": return x.give(a[0], a[1], a[2]);
            case "buy": return x.buy(a[0], a[1], a[2], a[3], a[4], a[5]);
            case "free": return x.free(a[0]);
            case "aside": return x.aside(a[0]);
            case "spent": return x.spent(a[0]);
            case "left": return x.left(a[0]);
            case "begin": return x.begin(a[0], a[1], a[2] == 1);
            case "join": return x.join(a[0], a[1], a[2] == 1);
            case "leave": return x.leave(a[0]);
            case "move": return x.move(a[0], a[1]) ? 1 : 0;
            case "pass": return x.pass(a[0]);
            case "now": return x.now();
            case "cellOf": return x.cellOf(a[0]);
            case "rateOf": return x.rateOf(a[0]);
            case "legOf": return x.legOf(a[0]);
            case "sliceOf": return x.sliceOf(a[0]);
            case "parties": return x.parties(a[0]);
            case "legs": return x.legs();
            case "stateOf": return x.stateOf(a[0]);
            case "seconds": return x.seconds(a[0]);
            case "charged": return x.charged(a[0]);
            case "covered": return x.covered(a[0]);
            case "ratedByEvents": return x.ratedByEvents(a[0]);
            case "tag": return x.tag(a[0]);
            case "seal": return x.seal(a[0]);
            case "stamp": return x.stamp(a[0]);
            case "lineAt": return x.lineAt(a[0], a[1]);
            default: throw new UnsupportedOperationException(name);
        }
    }
}
