set_option maxRecDepth 16384 in
theorem start1.o2_0 : ((tables_1.drop (40 * 0)).take 40).all (fun c => su_isCode c || c.before args0 about2) = true := by decide +kernel
set_option maxRecDepth 16384 in
theorem start1.o2_1 : ((tables_1.drop (40 * 1)).take 40).all (fun c => su_isCode c || c.before args0 about2) = true := by decide +kernel
set_option maxRecDepth 16384 in
theorem start1.o2_2 : ((tables_1.drop (40 * 2)).take 40).all (fun c => su_isCode c || c.before args0 about2) = true := by decide +kernel
set_option maxRecDepth 16384 in
theorem start1.o2_3 : ((tables_1.drop (40 * 3)).take 40).all (fun c => su_isCode c || c.before args0 about2) = true := by decide +kernel
set_option maxRecDepth 16384 in
theorem start1.o2_4 : ((tables_1.drop (40 * 4)).take 40).all (fun c => su_isCode c || c.before args0 about2) = true := by decide +kernel
set_option maxRecDepth 16384 in
theorem start1.o2_5 : ((tables_1.drop (40 * 5)).take 40).all (fun c => su_isCode c || c.before args0 about2) = true := by decide +kernel
set_option maxRecDepth 16384 in
theorem start1.o2_6 : ((tables_1.drop (40 * 6)).take 40).all (fun c => su_isCode c || c.before args0 about2) = true := by decide +kernel
set_option maxRecDepth 16384 in
theorem start1.o2_7 : ((tables_1.drop (40 * 7)).take 40).all (fun c => su_isCode c || c.before args0 about2) = true := by decide +kernel
set_option maxRecDepth 16384 in
theorem start1.o2_8 : ((tables_1.drop (40 * 8)).take 40).all (fun c => su_isCode c || c.before args0 about2) = true := by decide +kernel
set_option maxRecDepth 16384 in
theorem start1.o2_9 : ((tables_1.drop (40 * 9)).take 40).all (fun c => su_isCode c || c.before args0 about2) = true := by decide +kernel
set_option maxRecDepth 16384 in
theorem start1.o2_10 : ((tables_1.drop (40 * 10)).take 40).all (fun c => su_isCode c || c.before args0 about2) = true := by decide +kernel
set_option maxRecDepth 16384 in
theorem start1.o2_11 : ((tables_1.drop (40 * 11)).take 40).all (fun c => su_isCode c || c.before args0 about2) = true := by decide +kernel
set_option maxRecDepth 16384 in
theorem start1.o2_12 : ((tables_1.drop (40 * 12)).take 40).all (fun c => su_isCode c || c.before args0 about2) = true := by decide +kernel
set_option maxRecDepth 16384 in
theorem start1.o2_13 : ((tables_1.drop (40 * 13)).take 40).all (fun c => su_isCode c || c.before args0 about2) = true := by decide +kernel
set_option maxRecDepth 16384 in
theorem start1.o2_14 : ((tables_1.drop (40 * 14)).take 40).all (fun c => su_isCode c || c.before args0 about2) = true := by decide +kernel
set_option maxRecDepth 16384 in
theorem start1.o2_15 : ((tables_1.drop (40 * 15)).take 40).all (fun c => su_isCode c || c.before args0 about2) = true := by decide +kernel
set_option maxRecDepth 16384 in
theorem start1.o2_16 : ((tables_1.drop (40 * 16)).take 40).all (fun c => su_isCode c || c.before args0 about2) = true := by decide +kernel
set_option maxRecDepth 16384 in
theorem start1.o2_17 : ((tables_1.drop (40 * 17)).take 40).all (fun c => su_isCode c || c.before args0 about2) = true := by decide +kernel
set_option maxRecDepth 16384 in
theorem start1.o2_18 : ((tables_1.drop (40 * 18)).take 40).all (fun c => su_isCode c || c.before args0 about2) = true := by decide +kernel
set_option maxRecDepth 16384 in
theorem start1.o2_19 : ((tables_1.drop (40 * 19)).take 40).all (fun c => su_isCode c || c.before args0 about2) = true := by decide +kernel
set_option maxRecDepth 16384 in
theorem start1.o2_20 : ((tables_1.drop (40 * 20)).take 40).all (fun c => su_isCode c || c.before args0 about2) = true := by decide +kernel
set_option maxRecDepth 16384 in
theorem start1.o2_21 : ((tables_1.drop (40 * 21)).take 40).all (fun c => su_isCode c || c.before args0 about2) = true := by decide +kernel
set_option maxRecDepth 16384 in
theorem start1.o2_22 : ((tables_1.drop (40 * 22)).take 40).all (fun c => su_isCode c || c.before args0 about2) = true := by decide +kernel
theorem start1.chunk {α : Type} (f : α → Bool) (l : List α) (N : Nat) (hl : l.length ≤ 40 * N) (h : ∀ i, i < N → ((l.drop (40 * i)).take 40).all f = true) : ∀ c ∈ l, f c = true := by
  intro c hc
  obtain ⟨j, hj⟩ := List.getElem?_of_mem hc
  have hjl : j < l.length := (List.getElem?_eq_some_iff.mp hj).1
  refine List.all_eq_true.mp (h (j / 40) (by omega)) c ?_
  apply List.mem_of_getElem? (i := j % 40)
  rw [List.getElem?_take_of_lt (Nat.mod_lt _ (by decide)), List.getElem?_drop, Nat.div_add_mod]
  exact hj
set_option maxRecDepth 16384 in
theorem start1.others2 : ∀ c ∈ tables_1, (su_isCode c || c.before args0 about2) = true := by
  refine chunk _ tables_1 23 (by decide +kernel) ?_
  intro i hi
  match i, hi with
  | 0, _ => exact o2_0
  | 1, _ => exact o2_1
  | 2, _ => exact o2_2
  | 3, _ => exact o2_3
  | 4, _ => exact o2_4
  | 5, _ => exact o2_5
  | 6, _ => exact o2_6
  | 7, _ => exact o2_7
  | 8, _ => exact o2_8
  | 9, _ => exact o2_9
  | 10, _ => exact o2_10
  | 11, _ => exact o2_11
  | 12, _ => exact o2_12
  | 13, _ => exact o2_13
  | 14, _ => exact o2_14
  | 15, _ => exact o2_15
  | 16, _ => exact o2_16
  | 17, _ => exact o2_17
  | 18, _ => exact o2_18
  | 19, _ => exact o2_19
  | 20, _ => exact o2_20
  | 21, _ => exact o2_21
  | 22, _ => exact o2_22
  | n + 23, h => omega
theorem start1.isCode_spec {c : Cond} (h : su_isCode c = true) : ∃ y b n r, c = Cond.code y b n r := by
  cases c <;> first | exact ⟨_, _, _, _, rfl⟩ | (simp [su_isCode] at h)
theorem start1.words2 : ∀ c ∈ (Cond.code x code maxLocals ret :: tables_1), c.before args0 about2 = true := by
  intro c hc
  rcases List.mem_cons.mp hc with h | h
  · rw [h]
    exact code2w (start1.words _ List.mem_cons_self)
  · cases hq : su_isCode c with
    | true =>
      obtain ⟨y, b, n, r, rfl⟩ := isCode_spec hq
      exact code2w (start1.words _ hc)
    | false =>
      have h2 := others2 c h
      rw [hq] at h2
      exact h2
