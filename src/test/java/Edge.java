/**
 * One sentence of the document that names a boundary case, with its own test, and a change to the program that breaks
 * the sentence: in the source, the first 'old' behind the first 'from' becomes 'put'.
 */
record Edge(int promise, String sentence, String what, Break broken, Runnable test) {
  record Break(String from, String old, String put) {
    /** The broken source, or null if there is no such place in it. */
    String applyTo(String source) {
      int begin = source.indexOf(from);
      int place = begin < 0 ? -1 : source.indexOf(old, begin);
      return place < 0 ? null : source.substring(0, place) + put + source.substring(place + old.length());
    }
  }

  String name() {
    return (promise == 0 ? "Terms" : "Promise " + promise) + ": \"" + sentence + "\" - " + what;
  }
}
