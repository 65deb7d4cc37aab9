section
/-! A START THAT THE STATEMENT ALLOWS AND AT WHICH THE LAW DOES NOT RETURN: the witness's own start, with one more class behind the others (an array class over int whose name isn't the array type's, with a clone of its own that is native and unknown), and the cell that the static RULES_AT_FIRST holds of that class. Every word of the tables and every premise holds there as at the witness's start; MastField$Rules' constructor calls clone on that cell. -/
def start1.bog : Class := { cArr "jt/bogus" 18 .int with methods := #[{ name := "clone", desc := "()Ljava/lang/Object;", sig := { parameters := [], returnType := some (.object "java/lang/Object") }, accessFlags := 0x101, code := none }] }
def start1.about2 : State := { about with
  vm := { about.vm with classes := about.vm.classes.push bog }
  heap := about.heap.setIfInBounds 5 { cls := 26, slots := #[.int (6), .int (2), .int (20), .int (1), .int (10), .int (3)], vm := .none } }
/-- as long as the machine runs, there is a frame above the law's caller -/
def start1.chk : Nat → State → Bool
  | 0, _ => false
  | n + 1, s => match s.status with
    | .running => Nat.blt 1 s.frames.length && chk n (stepThread p0.tables e0 s).1
    | _ => true
theorem start1.chk_spec : ∀ (n : Nat) (s : State), chk n s = true → ∀ k, (stepsAlone p0.tables e0 k s).status = .running → 1 < (stepsAlone p0.tables e0 k s).frames.length := by
  intro n
  induction n with
  | zero => intro s h; simp [chk] at h
  | succ n ih =>
    intro s h k hk
    by_cases hr : s.status = .running
    · rw [chk, hr] at h
      simp only [Bool.and_eq_true, Nat.blt_eq] at h
      by_cases hg : s.goesOn
      · cases k with
        | zero => exact h.1
        | succ k =>
          rw [stepsAlone_succ _ hg] at hk ⊢
          exact ih _ h.2 k hk
      · rw [stepsAlone_of_not_goesOn _ _ hg]
        exact h.1
    · rw [stepsAlone_of_not_goesOn _ _ (fun hg => hr hg.1)] at hk
      exact absurd hk hr
theorem start1.fc2 {n : String} {c : ClassId} (h : about.vm.findClass n = some c) : about2.vm.findClass n = some c := by
  unfold Vm.findClass at h ⊢
  show (about.vm.classes.push bog).findIdx? _ = some c
  rw [Array.findIdx?_push, h]
  rfl
theorem start1.get2 {c : Nat} {k : Class} (h : about.vm.classes[c]? = some k) : about2.vm.classes[c]? = some k := by
  have hl := (Array.getElem?_eq_some_iff.mp h).1
  show (about.vm.classes.push bog)[c]? = some k
  rw [Array.getElem?_push, if_neg (Nat.ne_of_lt hl)]
  exact h
theorem start1.named2 {x : MethodName} {m : MethodId} (h : about.methodNamed? x = some m) : about2.methodNamed? x = some m := by
  unfold State.methodNamed? at h ⊢
  cases hc : about.vm.findClass x.cls with
  | none => rw [hc] at h; cases h
  | some c =>
    rw [hc] at h
    rw [fc2 hc]
    simp only [Option.bind_eq_bind, Option.bind_some] at h ⊢
    cases hk : about.vm.classes[c]? with
    | none => rw [hk] at h; cases h
    | some k =>
      rw [hk] at h
      rw [get2 hk]
      exact h
theorem start1.meth2 {m : MethodId} {meth : Method} (h : about.vm.method? m = some meth) : about2.vm.method? m = some meth := by
  unfold Vm.method? at h ⊢
  simp only [Option.bind_eq_bind] at h ⊢
  cases hk : about.vm.classes[m.cls]? with
  | none => rw [hk] at h; cases h
  | some k =>
    rw [hk] at h
    rw [get2 hk]
    exact h
theorem start1.code2w {x : MethodName} {b : ByteArray} {n : Nat} {r : Option FieldType} (h : (Cond.code x b n r).before args0 about = true) : (Cond.code x b n r).before args0 about2 = true := by
  obtain ⟨m, hm⟩ := Cond.code_named h
  obtain ⟨meth, c, h1, -⟩ := Cond.code_spec hm h
  have e1 : (about.methodNamed? x).bind about.vm.method? = some meth := by rw [hm]; exact h1
  have e2 : (about2.methodNamed? x).bind about2.vm.method? = some meth := by rw [named2 hm]; exact meth2 h1
  simp only [Cond.before, Cond.holds, Cond.value, e1] at h
  simp only [Cond.before, Cond.holds, Cond.value, e2]
  exact h
theorem start1.words_ok : ∀ c ∈ (Cond.code x code maxLocals ret :: tables_1), c.before args0 about = true := start1.words
end
section
set_option maxRecDepth 16384 in
theorem start1.o2_0 : ((tables_1.drop (40 * 0)).take 40).all (fun c => su_isCode c || c.before args0 about2) = true := by decide +kernel
set_option maxRecDepth 16384 in
theorem start1.o2_1 : ((tables_1.drop (40 * 1)).take 40).all (fun c => su_isCode c || c.before args0 about2) = true := by decide +kernel
set_option maxRecDepth 16384 in
theorem start1.o2_2 : ((tables_1.drop (40 * 2)).take 40).all (fun c => su_isCode c || c.before args0 about2) = true := by decide +kernel
set_option maxRecDepth 16384 in
theorem start1.o2_3 : ((tables_1.drop (40 * 3)).take 40).all (fun c => su_isCode c || c.before args0 about2) = true := by decide +kernel
set_option maxRecDepth 16384 in
theorem start1.o2_4 : ((tables_1.drop (40 * 4)).take 40).all (fun c => su_isCode c || c.before args0 about2) = true := by decide +kernel
set_option maxRecDepth 16384 in
theorem start1.o2_5 : ((tables_1.drop (40 * 5)).take 40).all (fun c => su_isCode c || c.before args0 about2) = true := by decide +kernel
set_option maxRecDepth 16384 in
theorem start1.o2_6 : ((tables_1.drop (40 * 6)).take 40).all (fun c => su_isCode c || c.before args0 about2) = true := by decide +kernel
set_option maxRecDepth 16384 in
theorem start1.o2_7 : ((tables_1.drop (40 * 7)).take 40).all (fun c => su_isCode c || c.before args0 about2) = true := by decide +kernel
set_option maxRecDepth 16384 in
theorem start1.o2_8 : ((tables_1.drop (40 * 8)).take 40).all (fun c => su_isCode c || c.before args0 about2) = true := by decide +kernel
set_option maxRecDepth 16384 in
theorem start1.o2_9 : ((tables_1.drop (40 * 9)).take 40).all (fun c => su_isCode c || c.before args0 about2) = true := by decide +kernel
set_option maxRecDepth 16384 in
theorem start1.o2_10 : ((tables_1.drop (40 * 10)).take 40).all (fun c => su_isCode c || c.before args0 about2) = true := by decide +kernel
set_option maxRecDepth 16384 in
theorem start1.o2_11 : ((tables_1.drop (40 * 11)).take 40).all (fun c => su_isCode c || c.before args0 about2) = true := by decide +kernel
set_option maxRecDepth 16384 in
theorem start1.o2_12 : ((tables_1.drop (40 * 12)).take 40).all (fun c => su_isCode c || c.before args0 about2) = true := by decide +kernel
set_option maxRecDepth 16384 in
theorem start1.o2_13 : ((tables_1.drop (40 * 13)).take 40).all (fun c => su_isCode c || c.before args0 about2) = true := by decide +kernel
set_option maxRecDepth 16384 in
theorem start1.o2_14 : ((tables_1.drop (40 * 14)).take 40).all (fun c => su_isCode c || c.before args0 about2) = true := by decide +kernel
set_option maxRecDepth 16384 in
theorem start1.o2_15 : ((tables_1.drop (40 * 15)).take 40).all (fun c => su_isCode c || c.before args0 about2) = true := by decide +kernel
set_option maxRecDepth 16384 in
theorem start1.o2_16 : ((tables_1.drop (40 * 16)).take 40).all (fun c => su_isCode c || c.before args0 about2) = true := by decide +kernel
set_option maxRecDepth 16384 in
theorem start1.o2_17 : ((tables_1.drop (40 * 17)).take 40).all (fun c => su_isCode c || c.before args0 about2) = true := by decide +kernel
set_option maxRecDepth 16384 in
theorem start1.o2_18 : ((tables_1.drop (40 * 18)).take 40).all (fun c => su_isCode c || c.before args0 about2) = true := by decide +kernel
set_option maxRecDepth 16384 in
theorem start1.o2_19 : ((tables_1.drop (40 * 19)).take 40).all (fun c => su_isCode c || c.before args0 about2) = true := by decide +kernel
set_option maxRecDepth 16384 in
theorem start1.o2_20 : ((tables_1.drop (40 * 20)).take 40).all (fun c => su_isCode c || c.before args0 about2) = true := by decide +kernel
set_option maxRecDepth 16384 in
theorem start1.o2_21 : ((tables_1.drop (40 * 21)).take 40).all (fun c => su_isCode c || c.before args0 about2) = true := by decide +kernel
set_option maxRecDepth 16384 in
theorem start1.o2_22 : ((tables_1.drop (40 * 22)).take 40).all (fun c => su_isCode c || c.before args0 about2) = true := by decide +kernel
theorem start1.chunk {α : Type} (f : α → Bool) (l : List α) (N : Nat) (hl : l.length ≤ 40 * N) (h : ∀ i, i < N → ((l.drop (40 * i)).take 40).all f = true) : ∀ c ∈ l, f c = true := by
  intro c hc
  obtain ⟨j, hj⟩ := List.getElem?_of_mem hc
  have hjl : j < l.length := (List.getElem?_eq_some_iff.mp hj).1
  refine List.all_eq_true.mp (h (j / 40) (by omega)) c ?_
  apply List.mem_of_getElem? (i := j % 40)
  rw [List.getElem?_take_of_lt (Nat.mod_lt _ (by decide)), List.getElem?_drop, Nat.div_add_mod]
  exact hj
set_option maxRecDepth 16384 in
theorem start1.others2 : ∀ c ∈ tables_1, (su_isCode c || c.before args0 about2) = true := by
  refine chunk _ tables_1 23 (by decide +kernel) ?_
  intro i hi
  match i, hi with
  | 0, _ => exact o2_0
  | 1, _ => exact o2_1
  | 2, _ => exact o2_2
  | 3, _ => exact o2_3
  | 4, _ => exact o2_4
  | 5, _ => exact o2_5
  | 6, _ => exact o2_6
  | 7, _ => exact o2_7
  | 8, _ => exact o2_8
  | 9, _ => exact o2_9
  | 10, _ => exact o2_10
  | 11, _ => exact o2_11
  | 12, _ => exact o2_12
  | 13, _ => exact o2_13
  | 14, _ => exact o2_14
  | 15, _ => exact o2_15
  | 16, _ => exact o2_16
  | 17, _ => exact o2_17
  | 18, _ => exact o2_18
  | 19, _ => exact o2_19
  | 20, _ => exact o2_20
  | 21, _ => exact o2_21
  | 22, _ => exact o2_22
  | n + 23, h => omega
theorem start1.isCode_spec {c : Cond} (h : su_isCode c = true) : ∃ y b n r, c = Cond.code y b n r := by
  cases c <;> first | exact ⟨_, _, _, _, rfl⟩ | (simp [su_isCode] at h)
theorem start1.words2 : ∀ c ∈ (Cond.code x code maxLocals ret :: tables_1), c.before args0 about2 = true := by
  intro c hc
  rcases List.mem_cons.mp hc with h | h
  · rw [h]
    exact code2w (start1.words _ List.mem_cons_self)
  · cases hq : su_isCode c with
    | true =>
      obtain ⟨y, b, n, r, rfl⟩ := isCode_spec hq
      exact code2w (start1.words _ hc)
    | false =>
      have h2 := others2 c h
      rw [hq] at h2
      exact h2
end
section
set_option maxRecDepth 16384 in
/-- the start of 01 is one that the Statement allows: everything that 'Claimed_1_1' asks of a start holds there -/
theorem start1.atStart2 : AtStart classFile x code maxLocals ret World_1 tables_1 room_1 Calls_1 rest_1 Pre_1 launch0 p0 e0 about2 ⟨0, 0⟩ args0 Lib.HandBits.below0 :=
  ⟨lists_1, trivial, launch0.admits_env _ _ _, launch0.least_env, fairChoices_fair.cas, fairChoices_fair.clock, rfl, by decide +kernel, by decide +kernel,
    (Spec.applies_iff rfl).mpr ⟨rfl, rfl, rfl, by decide +kernel, by decide +kernel, by decide +kernel, launch0.hasRoom_least _ room_1 (by decide +kernel) (by decide +kernel) (by decide +kernel) (by decide +kernel) (by decide +kernel) (by decide +kernel), atoms_intro words2⟩,
    trivial, (show rest_1_c.before args0 about2 = true by decide +kernel), (show (Cond.and given_1 narrow_1).before args0 about2 = true by decide +kernel)⟩
set_option maxRecDepth 16384 in
/-- the run from there, walked by the kernel: some fifty steps, then the machine has stopped; till then a frame of the law's stands above its caller -/
theorem start1.run2 : chk 60 about2 = true := by decide +kernel
/-- at no moment has the law returned with the machine running -/
theorem start1.never2 (k : Nat) (v : Option Value) : ¬ ((stepsAlone p0.tables e0 k about2).status = .running ∧ Ended (stepsAlone p0.tables e0 k about2) Lib.HandBits.below0 (.returned v)) := by
  rintro ⟨h1, h2⟩
  have h3 := chk_spec 60 about2 run2 k h1
  have h4 : (stepsAlone p0.tables e0 k about2).frames = [.native { method := ⟨0, 0⟩, args := #[], awaiting := false, answer := some (.returned v) }] := h2
  rw [h4] at h3
  exact Nat.lt_irrefl 1 h3
/-- THE STATEMENT IS FALSE AS IT IS WRITTEN -/
theorem claimed_false : ¬ Claimed_1_1 := by
  intro h
  obtain ⟨hL, hW, ha, -, hc, hk, hf, hfit, hheap, happ, hcalls, hrest, hpre⟩ := start1.atStart2
  obtain ⟨n, o, -, hrun, hend, hpost⟩ := h launch0 rfl hL hW start1.p0 start1.e0 ha hc hk start1.about2 ⟨0, 0⟩ start1.args0 Lib.HandBits.below0 hf hfit hheap happ ⟨hcalls, hrest, hpre⟩
  cases o with
  | returned v => exact start1.never2 n v ⟨hrun, hend⟩
  | threw a =>
    have h1 : limb_1_1.after start1.args0 start1.about2 (.threw a) (stepsAlone start1.p0.tables start1.e0 n start1.about2) = true := hpost.1
    simp [limb_1_1, Cond.after, Cond.holds, Cond.value] at h1
theorem i_vc_false : ¬ (Claimed_1_1 ∧ Claimed_1_2) := fun h => claimed_false h.1
end
