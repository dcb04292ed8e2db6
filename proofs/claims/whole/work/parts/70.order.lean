/-! The order of the deeds: by fact day, then by number -/
def dayL (ds : Nat → Dd) (N f : Nat) : List Nat := (List.range N).filter (fun n => decide ((ds n).fact = f))
def ordL (ds : Nat → Dd) (N : Nat) : Nat → List Nat
  | 0 => []
  | f + 1 => ordL ds N f ++ dayL ds N f
theorem dayL_mem {ds : Nat → Dd} {N f n : Nat} : n ∈ dayL ds N f ↔ n < N ∧ (ds n).fact = f := by
  unfold dayL
  rw [List.mem_filter, List.mem_range, decide_eq_true_iff]
theorem ordL_mem {ds : Nat → Dd} {N n : Nat} : ∀ {F : Nat}, n ∈ ordL ds N F ↔ n < N ∧ (ds n).fact < F := by
  intro F
  induction F with
  | zero => exact ⟨(fun h => by cases h), fun h => absurd h.2 (Nat.not_lt_zero _)⟩
  | succ F ih =>
    show n ∈ ordL ds N F ++ dayL ds N F ↔ _
    rw [List.mem_append, ih, dayL_mem]
    omega
theorem dayL_s {ds : Nat → Dd} {N f : Nat} : dayL ds (N + 1) f = dayL ds N f ++ (if (ds N).fact = f then [N] else []) := by
  unfold dayL
  rw [List.range_succ, List.filter_append]
  by_cases h : (ds N).fact = f
  · rw [if_pos h]; simp [h]
  · rw [if_neg h]; simp [h]
theorem view_app {ds : Nat → Dd} {rc fc : Nat} {l r : List Nat} : viewA ds rc fc (l ++ r) = r.foldl (stepV ds rc fc) (viewA ds rc fc l) := List.foldl_append ..
theorem skip_all {ds : Nat → Dd} {rc fc : Nat} : ∀ (l : List Nat) (V : Vw), (∀ n ∈ l, fc < (ds n).fact) → l.foldl (stepV ds rc fc) V = V := by
  intro l
  induction l with
  | nil => intro V _; rfl
  | cons n l ih =>
    intro V h
    show l.foldl (stepV ds rc fc) (stepV ds rc fc V n) = V
    rw [show stepV ds rc fc V n = V from if_neg (by have := h n List.mem_cons_self; omega)]
    exact ih V (fun m hm => h m (List.mem_cons_of_mem _ hm))
theorem view_late {ds : Nat → Dd} {rc fc N : Nat} : ∀ F, fc + 1 ≤ F → viewA ds rc fc (ordL ds N F) = viewA ds rc fc (ordL ds N (fc + 1)) := by
  intro F
  induction F with
  | zero => intro h; omega
  | succ F ih =>
    intro h
    by_cases e : F = fc
    · rw [e]
    · show viewA ds rc fc (ordL ds N F ++ dayL ds N F) = _
      rw [view_app, skip_all _ _ (fun n hn => by have := (dayL_mem.mp hn).2; omega)]
      exact ih (by omega)
theorem ordL_le {ds : Nat → Dd} {N : Nat} : ∀ {F G : Nat}, F ≤ G → (ordL ds N F).length ≤ (ordL ds N G).length := by
  intro F G h
  induction G with
  | zero => rw [show F = 0 by omega]; exact Nat.le_refl _
  | succ G ih =>
    by_cases e : F = G + 1
    · rw [e]; exact Nat.le_refl _
    · have := ih (by omega)
      show _ ≤ (ordL ds N G ++ dayL ds N G).length
      rw [List.length_append]
      omega
theorem dayL_le {ds : Nat → Dd} {f : Nat} : ∀ {n N : Nat}, n ≤ N → (dayL ds n f).length ≤ (dayL ds N f).length := by
  intro n N h
  induction N with
  | zero => rw [show n = 0 by omega]; exact Nat.le_refl _
  | succ N ih =>
    by_cases e : n = N + 1
    · rw [e]; exact Nat.le_refl _
    · have := ih (by omega)
      rw [dayL_s (N := N), List.length_append]
      omega
theorem view_okL {ds : Nat → Dd} {rc fc : Nat} (l : List Nat) (ho : ∀ n ∈ l, dOK (ds n)) : okV (1 + l.length) (viewA ds rc fc l) l := by
  have z := view_ok (ds := ds) (rc := rc) (fc := fc) ho l.length (Nat.le_refl _)
  rw [List.take_of_length_le (Nat.le_refl _)] at z
  exact z
