/-- No start whose tables lack the array class "[Ljava/lang/StackTraceElement;" meets what the Statement takes as given: three of its rows ('not castable' from that class to List, Integer, String) name that class. The printed start's tables lack it. -/
theorem zs_lacks {args : Array Value} {s : State} (h : s.vm.findClass "[Ljava/lang/StackTraceElement;" = none) : ¬ (Jvm.Cond.and given_1 narrow_1).before args s = true := by
  intro hb
  have hs := flat_of_before _ hb
  have hc : (Cond.not (.castable "[Ljava/lang/StackTraceElement;" "java/util/List")).before args s = true := hs _ (by decide +kernel)
  simp [Cond.before, Cond.holds, Cond.value, h] at hc
