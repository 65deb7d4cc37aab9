set_option maxRecDepth 16384 in
/-- the start of 01 is one that the Statement allows: everything that 'Claimed_1_1' asks of a start holds there -/
theorem start1.atStart2 : AtStart classFile x code maxLocals ret World_1 tables_1 room_1 Calls_1 rest_1 Pre_1 launch0 p0 e0 about2 ⟨0, 0⟩ args0 Lib.HandBits.below0 :=
  ⟨lists_1, trivial, launch0.admits_env _ _ _, launch0.least_env, fairChoices_fair.cas, fairChoices_fair.clock, rfl, by decide +kernel, by decide +kernel,
    (Spec.applies_iff rfl).mpr ⟨rfl, rfl, rfl, by decide +kernel, by decide +kernel, by decide +kernel, launch0.hasRoom_least _ room_1 (by decide +kernel) (by decide +kernel) (by decide +kernel) (by decide +kernel) (by decide +kernel) (by decide +kernel), atoms_intro words2⟩,
    trivial, (show rest_1_c.before args0 about2 = true by decide +kernel), (show (Cond.and given_1 narrow_1).before args0 about2 = true by decide +kernel)⟩
set_option maxRecDepth 16384 in
/-- the run from there, walked by the kernel: some fifty steps, then the machine has stopped; till then a frame of the law's stands above its caller -/
theorem start1.run2 : chk 60 about2 = true := by decide +kernel
/-- at no moment has the law returned with the machine running -/
theorem start1.never2 (k : Nat) (v : Option Value) : ¬ ((stepsAlone p0.tables e0 k about2).status = .running ∧ Ended (stepsAlone p0.tables e0 k about2) Lib.HandBits.below0 (.returned v)) := by
  rintro ⟨h1, h2⟩
  have h3 := chk_spec 60 about2 run2 k h1
  have h4 : (stepsAlone p0.tables e0 k about2).frames = [.native { method := ⟨0, 0⟩, args := #[], awaiting := false, answer := some (.returned v) }] := h2
  rw [h4] at h3
  exact Nat.lt_irrefl 1 h3
/-- THE STATEMENT IS FALSE AS IT IS WRITTEN -/
theorem claimed_false : ¬ Claimed_1_1 := by
  intro h
  obtain ⟨hL, hW, ha, -, hc, hk, hf, hfit, hheap, happ, hcalls, hrest, hpre⟩ := start1.atStart2
  obtain ⟨n, o, -, hrun, hend, hpost⟩ := h launch0 rfl hL hW start1.p0 start1.e0 ha hc hk start1.about2 ⟨0, 0⟩ start1.args0 Lib.HandBits.below0 hf hfit hheap happ ⟨hcalls, hrest, hpre⟩
  cases o with
  | returned v => exact start1.never2 n v ⟨hrun, hend⟩
  | threw a =>
    have h1 : limb_1_1.after start1.args0 start1.about2 (.threw a) (stepsAlone start1.p0.tables start1.e0 n start1.about2) = true := hpost.1
    simp [limb_1_1, Cond.after, Cond.holds, Cond.value] at h1
theorem i_vc_false : ¬ (Claimed_1_1 ∧ Claimed_1_2) := fun h => claimed_false h.1
