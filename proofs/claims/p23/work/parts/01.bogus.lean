/-! A START THAT THE STATEMENT ALLOWS AND AT WHICH THE LAW DOES NOT RETURN: the witness's own start, with one more class behind the others (an array class over int whose name isn't the array type's, with a clone of its own that is native and unknown), and the cell that the static RULES_AT_FIRST holds of that class. Every word of the tables and every premise holds there as at the witness's start; MastField$Rules' constructor calls clone on that cell. -/
def start1.bog : Class := { cArr "jt/bogus" 18 .int with methods := #[{ name := "clone", desc := "()Ljava/lang/Object;", sig := { parameters := [], returnType := some (.object "java/lang/Object") }, accessFlags := 0x101, code := none }] }
def start1.about2 : State := { about with
  vm := { about.vm with classes := about.vm.classes.push bog }
  heap := about.heap.setIfInBounds 5 { cls := 26, slots := #[.int (6), .int (2), .int (20), .int (1), .int (10), .int (3)], vm := .none } }
/-- as long as the machine runs, there is a frame above the law's caller -/
def start1.chk : Nat → State → Bool
  | 0, _ => false
  | n + 1, s => match s.status with
    | .running => Nat.blt 1 s.frames.length && chk n (stepThread p0.tables e0 s).1
    | _ => true
theorem start1.chk_spec : ∀ (n : Nat) (s : State), chk n s = true → ∀ k, (stepsAlone p0.tables e0 k s).status = .running → 1 < (stepsAlone p0.tables e0 k s).frames.length := by
  intro n
  induction n with
  | zero => intro s h; simp [chk] at h
  | succ n ih =>
    intro s h k hk
    by_cases hr : s.status = .running
    · rw [chk, hr] at h
      simp only [Bool.and_eq_true, Nat.blt_eq] at h
      by_cases hg : s.goesOn
      · cases k with
        | zero => exact h.1
        | succ k =>
          rw [stepsAlone_succ _ hg] at hk ⊢
          exact ih _ h.2 k hk
      · rw [stepsAlone_of_not_goesOn _ _ hg]
        exact h.1
    · rw [stepsAlone_of_not_goesOn _ _ (fun hg => hr hg.1)] at hk
      exact absurd hk hr
theorem start1.fc2 {n : String} {c : ClassId} (h : about.vm.findClass n = some c) : about2.vm.findClass n = some c := by
  unfold Vm.findClass at h ⊢
  show (about.vm.classes.push bog).findIdx? _ = some c
  rw [Array.findIdx?_push, h]
  rfl
theorem start1.get2 {c : Nat} {k : Class} (h : about.vm.classes[c]? = some k) : about2.vm.classes[c]? = some k := by
  have hl := (Array.getElem?_eq_some_iff.mp h).1
  show (about.vm.classes.push bog)[c]? = some k
  rw [Array.getElem?_push, if_neg (Nat.ne_of_lt hl)]
  exact h
theorem start1.named2 {x : MethodName} {m : MethodId} (h : about.methodNamed? x = some m) : about2.methodNamed? x = some m := by
  unfold State.methodNamed? at h ⊢
  cases hc : about.vm.findClass x.cls with
  | none => rw [hc] at h; cases h
  | some c =>
    rw [hc] at h
    rw [fc2 hc]
    simp only [Option.bind_eq_bind, Option.bind_some] at h ⊢
    cases hk : about.vm.classes[c]? with
    | none => rw [hk] at h; cases h
    | some k =>
      rw [hk] at h
      rw [get2 hk]
      exact h
theorem start1.meth2 {m : MethodId} {meth : Method} (h : about.vm.method? m = some meth) : about2.vm.method? m = some meth := by
  unfold Vm.method? at h ⊢
  simp only [Option.bind_eq_bind] at h ⊢
  cases hk : about.vm.classes[m.cls]? with
  | none => rw [hk] at h; cases h
  | some k =>
    rw [hk] at h
    rw [get2 hk]
    exact h
theorem start1.code2w {x : MethodName} {b : ByteArray} {n : Nat} {r : Option FieldType} (h : (Cond.code x b n r).before args0 about = true) : (Cond.code x b n r).before args0 about2 = true := by
  obtain ⟨m, hm⟩ := Cond.code_named h
  obtain ⟨meth, c, h1, -⟩ := Cond.code_spec hm h
  have e1 : (about.methodNamed? x).bind about.vm.method? = some meth := by rw [hm]; exact h1
  have e2 : (about2.methodNamed? x).bind about2.vm.method? = some meth := by rw [named2 hm]; exact meth2 h1
  simp only [Cond.before, Cond.holds, Cond.value, e1] at h
  simp only [Cond.before, Cond.holds, Cond.value, e2]
  exact h
theorem start1.words_ok : ∀ c ∈ (Cond.code x code maxLocals ret :: tables_1), c.before args0 about = true := start1.words
