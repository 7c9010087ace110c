/** What answers calls by their names: PilotRoster itself, or PlainRoster. */
interface Answering {
    /** The number that is returned, or the class of what is thrown. */
    Object call(String name, int... a);
}
