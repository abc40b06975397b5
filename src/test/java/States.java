/** Objects in states at the document's bounds, each made by few calls, the same at each making. */
final class States extends Checks {
  private States() { }

  static TableChoices nothing() {
    return new TableChoices();
  }

  static TableChoices oneName() {
    return names(1);
  }

  static TableChoices sixNames() {
    return names(6, 1, 2, 6, 3, 2);
  }

  /** A constraint of each kind, the numbers of the constraints being those of the kinds; values that went each way. */
  static TableChoices allKinds() {
    TableChoices x = names(4, 3, 4);
    x.table(2, w(0, 1));
    x.tuple(0, w(0, 7));
    x.tuple(0, w(1, 2));
    x.tuple(0, w(2, 1));
    x.machine(2, w(1, 2), 3, 5);
    x.step(1, 0, 0, 1, 2);
    x.step(1, 0, 1, 0, 0);
    x.step(1, 1, 1, 0, 3);
    x.step(1, 0, 2, 1, 5);
    x.step(1, 1, 0, 1, 1);
    x.element(3, w(0, 1, 2));
    x.order(2, w(0, 2), false);
    x.sum(3, w(2, 1, 0), 1, 5);
    x.tally(3, w(0, 2, 1), 1, 0, 2);
    x.first(2, w(2, 1), 1, 2);
    x.cut(2, 11);
    x.mark();
    x.run();
    return x;
  }

  static TableChoices fullConstraints() {
    TableChoices x = names(2, 2, 2);
    for (int i = 0; i < 9; i++) x.tally(3, w(0, 1, 2), 1, 0, 2);
    x.sum(3, w(0, 1, 2), 0, 2);
    return x;
  }

  /** Each mark keeps something else, and something went behind the last one, too. */
  static TableChoices fullMarks() {
    TableChoices x = names(6, 6);
    x.order(2, w(0, 1), true);
    for (int i = 0; i < 8; i++) {
      x.mark();
      if (i == 4) x.run();
      x.cut(i & 1, 63 & ~(1 << (i >> 1)));
    }
    return x;
  }

  static TableChoices fullNames() {
    TableChoices x = names(2, 1, 2, 3, 2, 1);
    x.table(6, w(5, 4, 3, 2, 1, 0));
    x.tuple(0, w(0, 7, 1, 7, 0, 7));
    return x;
  }

  static TableChoices fullNamesAndMark() {
    TableChoices x = fullNames();
    x.mark();
    return x;
  }

  static TableChoices fullTuples() {
    TableChoices x = names(6, 6);
    x.table(2, w(1, 0));
    for (int i = 0; i < 20; i++) x.tuple(0, w(i % 5, i / 5));
    return x;
  }

  static TableChoices fullSteps() {
    TableChoices x = names(6, 6);
    x.machine(2, w(1, 0), 62, 60);
    for (int i = 0; i < 30; i++) x.step(0, i / 6, i % 6, i % 5 + 1, i);
    return x;
  }

  /** The last run failed, so that constraint 1 allows no open word; there is no solution. */
  static TableChoices failed() {
    TableChoices x = names(3, 3, 2);
    x.order(2, w(0, 1), true);
    x.machine(2, w(1, 0), 1, 2);
    x.step(1, 0, 0, 0, 1);
    x.run();
    return x;
  }

  static Make[] all() {
    return new Make[] {
      States::nothing, States::oneName, States::sixNames, States::allKinds, States::fullConstraints, States::fullMarks,
      States::fullNames, States::fullNamesAndMark, States::fullTuples, States::fullSteps, States::failed
    };
  }
}
