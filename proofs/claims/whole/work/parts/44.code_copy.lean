/-! CODE TABLES of Arrays.copyOf, as far as the abstract machine goes -/
def gJ7_copyOf_1904c : ab_G := [(0, [(.aload_n 0, 1, 0, 0, 0, []),
    (.iload_n 1, 1, 1, 0, 0, []),
    (.aload_n 0, 1, 0, 0, 0, [])]),
  (6, [(.invokestatic 300, 3, 16, 3, 0, [333, 334, 0, 335, 49])]),
  (9, [(.areturn, 1, 0, 0, 0, [])])]
theorem kJ7_copyOf_1904c : ab_code (ab_mt nJ7_copyOf_1904c) gJ7_copyOf_1904c = true := by decide +kernel
def gJ7_copyOf_6403c : ab_G := [(0, [(.aload_n 2, 1, 2, 0, 0, [])]),
  (6, [(.iload_n 1, 1, 1, 0, 0, []),
    (.anewarray 2, 3, 4, 0, 0, [338]),
    (.goto 14, 3, 24, 0, 0, [])]),
  (13, [(.aload_n 2, 1, 2, 0, 0, [])]),
  (24, [(.astore_n 3, 1, 3, 0, 0, []),
    (.aload_n 0, 1, 0, 0, 0, []),
    (.iconst 0, 1, 0, 0, 0, []),
    (.aload_n 3, 1, 3, 0, 0, []),
    (.iconst 0, 1, 0, 0, 0, []),
    (.aload_n 0, 1, 0, 0, 0, []),
    (.arraylength, 1, 0, 0, 0, []),
    (.iload_n 1, 1, 1, 0, 0, []),
    (.invokestatic 304, 3, 124, 2, 4, [339, 340, 0, 341, 48])]),
  (38, [(.aload_n 3, 1, 3, 0, 0, []),
    (.areturn, 1, 0, 0, 0, [])])]
theorem kJ7_copyOf_6403c : ab_code (ab_mt nJ7_copyOf_6403c) gJ7_copyOf_6403c = true := by decide +kernel
