/** One call: a method's name, and what is given to it. */
record Call(String name, int... given) {
  int at(int i) { return given[i]; }

  @Override
  public String toString() { return name + java.util.Arrays.toString(given); }
}
