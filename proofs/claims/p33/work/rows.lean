section
theorem wf_l {a b : Cond} {args : Array Value} {s : State} (h : (Jvm.Cond.and a b).before args s = true) : a.before args s = true := by
  rw [Cond.before_and, Bool.and_eq_true] at h
  exact h.1
theorem wf_r {a b : Cond} {args : Array Value} {s : State} (h : (Jvm.Cond.and a b).before args s = true) : b.before args s = true := by
  rw [Cond.before_and, Bool.and_eq_true] at h
  exact h.2
theorem wf_cast {args : Array Value} {s : State} {a b : String} (h : s.vm.findClass a = none) : (Jvm.Cond.not (Jvm.Cond.castable a b)).before args s = false := by
  simp [Cond.before, Cond.holds, Cond.value, h]
theorem wf_arr {args : Array Value} {s : State} (h : narrow_1.before args s = true) : (Jvm.Cond.not (Jvm.Cond.castable "[Ljava/lang/StackTraceElement;" "java/lang/String")).before args s = true :=
  wf_l (wf_l (wf_l (wf_l (wf_l (wf_r (wf_r (wf_r (wf_l (h)))))))))
theorem wf_narrow {args : Array Value} {s : State} (hn : s.vm.findClass "[Ljava/lang/StackTraceElement;" = none) : narrow_1.before args s = false := by
  cases h : narrow_1.before args s with
  | false => rfl
  | true => exact absurd (wf_arr h) (by rw [wf_cast hn]; exact Bool.false_ne_true)
theorem wf_start {args : Array Value} {s : State} (hn : s.vm.findClass "[Ljava/lang/StackTraceElement;" = none) : (Jvm.Cond.and given_1 narrow_1).before args s = false := by
  rw [Cond.before_and, wf_narrow hn, Bool.and_false]
theorem wf_none {s : State} (h : ∀ k ∈ s.vm.classes, k.name ≠ "[Ljava/lang/StackTraceElement;") : s.vm.findClass "[Ljava/lang/StackTraceElement;" = none := by
  cases hf : s.vm.findClass "[Ljava/lang/StackTraceElement;" with
  | none => rfl
  | some c =>
    obtain ⟨hlt, hp, _⟩ := Array.findIdx?_eq_some_iff_getElem.mp hf
    simp only [Bool.and_eq_true, beq_iff_eq] at hp
    exact absurd hp.1.1.1 (h _ (Array.getElem_mem hlt))
theorem wf_all {args : Array Value} {s : State} (h : ∀ k ∈ s.vm.classes, k.name ≠ "[Ljava/lang/StackTraceElement;") : (Jvm.Cond.and given_1 narrow_1).before args s = false := wf_start (wf_none h)
end
