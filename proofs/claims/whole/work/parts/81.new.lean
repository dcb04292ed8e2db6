/-! A new deed comes to the registers of both sides -/
def newV (ds : Nat → Dd) (N T : Nat) : Vw := viewA ds T T (ordL ds N 61)
theorem ds_new {ds : Nat → Dd} {N T : Nat} {d : Dd} (hd : dsOK ds N T) (hN : N < 40) (hok : dOK d) (hr : d.rec = T) (hf : d.fact ≤ T) : dsOK (va_up ds N d) (N + 1) T := by
  refine ⟨by omega, hd.2.1, fun n hn => ?_⟩
  by_cases e : n = N
  · subst e
    rw [va_up_self]
    have := hd.2.1
    exact ⟨hok, by omega, by omega⟩
  · rw [va_up_ne _ _ e]
    exact hd.2.2 n (by omega)
theorem ok_newC (Γ : Ev) {σ σ1 : St} {ds : Nat → Dd} {N T ci qa : Nat} {V : Vw} {d : Dd} (hd : dsOK ds N T) (hi : IC Γ σ ds N T V) (hN : N < 40) (hci : ci = 2 + d.k) (hok : dOK d) (hr : d.rec = T) (hf : d.fact ≤ T)
    (aI : ∀ k i, (i ≠ N ∨ k < 6 ∨ 13 < k) → σ1.I k i = σ.I k i) (aL : ∀ k i, (i ≠ N ∨ k ≠ 2) → σ1.L k i = σ.L k i) (aR : σ1.Rf = σ.Rf)
    (f1 : σ1.I 10 N = nI d.a) (f2 : σ1.I 11 N = nI d.b) (f3 : 1 ≤ d.k → d.k ≤ 3 → σ1.I 12 N = nI d.c) (f4 : d.k = 3 → σ1.I 13 N = d.e) (f5 : d.k = 1 → σ1.L 2 N = pkS d.f)
    {post : Int32 → St → Prop} {thr : String → St → Prop}
    (h : ∀ σ', IC (Γ.deed ci qa) σ' (va_up ds N d) (N + 1) T (newV (va_up ds N d) (N + 1) T) → sameM σ σ' → σ'.L 6 = σ.L 6 → post (nI N) σ') : wp_LR_file (Γ.deed ci qa) (nI d.fact) N σ1 post thr := by
  obtain ⟨h1, h2, h3, h4, h5, h6, -, -⟩ := hi
  have hT := hd.2.1
  have hlen := hd.len
  have hdk : d.k ≤ 8 := dOK_k hok
  have eds : ∀ n, n < N → va_up ds N d n = ds n := fun n hn => va_up_ne _ _ (by omega)
  have edN : va_up ds N d N = d := va_up_self _ _ _
  obtain ⟨tl, t1, t2, t3⟩ := ord_ins (ds := va_up ds N d) (N := N) 61 (by rw [edN]; omega)
  rw [edN] at t1 t2 t3
  have ec : ordL (va_up ds N d) N 61 = ordL ds N 61 := ordL_c eds 61
  have ead : ∀ n, n < N → (Γ.deed ci qa).ad (344 + n) = Γ.ad (344 + n) := fun n hn => va_up_ne _ _ (by rw [h1]; omega)
  have eK : ∀ n, n < N → (Γ.deed ci qa).K n = Γ.K n := fun n hn => va_up_ne _ _ (by rw [h1]; omega)
  have eKN : (Γ.deed ci qa).K N = ci := by rw [← h1]; exact va_up_self _ _ _
  have end' : (Γ.deed ci qa).nd = N + 1 := by rw [← h1]; rfl
  have hmem : ∀ n, n ∈ ordL ds N 61 → n < N := fun n hn => (ordL_mem.mp hn).1
  rw [ec] at t1
  have old : ∀ n, n < N → dC (Γ.deed ci qa) σ1 n (ds n) := by
    intro n hn
    obtain ⟨c1, c2, c3, c4, c5, c6, c7, c8, c9, c10⟩ := h6 n hn
    have hne : n ≠ N := by omega
    exact ⟨by omega, by rw [eK n hn]; exact c2, by rw [aI 6 n (.inl hne)]; exact c3, by rw [aI 7 n (.inl hne)]; exact c4, by rw [aI 8 n (.inl hne)]; exact c5, by rw [aI 10 n (.inl hne)]; exact c6, by rw [aI 11 n (.inl hne)]; exact c7, by rw [aI 12 n (.inl hne)]; exact c8, by rw [aI 13 n (.inl hne)]; exact c9, by rw [aL 2 n (.inl hne)]; exact c10⟩
  refine ok_fileC (Γ.deed ci qa) (σ := σ1) (ds := va_up ds N d) (N := N) (T := T) (f0 := d.fact) (pre := ordL (va_up ds N d) N (d.fact + 1)) (tl := tl) (by rw [aI 0 0 (.inr (.inl (by omega)))]; exact h2) (by rw [aI 0 1 (.inr (.inl (by omega)))]; exact h3) hN end' (by rw [eKN]; omega) ?_ ?_ ?_ (fun n hn => by have := (ordL_mem.mp hn).2; omega) (fun n hn => (t3 n hn).2) (by omega) (fun σ2 g1 g2 g3 g4 g5 g6 g7 g8 g9 => ?_)
  · rw [← t1]
    intro j n hj
    rw [aR, h4 j n hj, ead n (hmem n (List.mem_of_getElem? hj))]
  · rw [← t1]; exact hlen
  · rw [← t1]
    intro n hn
    have hn' := hmem n hn
    rw [eds n hn']
    exact ⟨hn', old n hn', (hd.2.2 n hn').1, (hd.2.2 n hn').2.2⟩
  · refine ic_look (Γ.deed ci qa) (σ := σ2) (ds := va_up ds N d) (N := N + 1) (T := T) (ds_new hd hN hok hr hf) ⟨end', g6, g7, by rw [t2]; exact g8, fun n hn => ?_, fun n hn => ?_⟩ hT hT (fun σ' a k => h σ' a ⟨fun j hj => ?_, fun j hj => ?_⟩ ?_)
    · rw [g9]
      by_cases e : n = N
      · subst e; exact va_up_self _ _ _
      · rw [va_up_ne _ _ e, aR, ead n (by omega)]; exact h5 n (by omega)
    · by_cases e : n = N
      · subst e
        rw [edN]
        exact ⟨by omega, by rw [eKN]; exact hci, by rw [g3, pk_us], by rw [g4, pk_us, hr], by rw [g5, pk_us], by rw [g1 10 (by omega)]; exact f1, by rw [g1 11 (by omega)]; exact f2, by rw [g1 12 (by omega)]; exact f3, by rw [g1 13 (by omega)]; exact f4, by rw [g2]; exact f5⟩
      · rw [eds n (by omega)]
        obtain ⟨c1, c2, c3, c4, c5, c6, c7, c8, c9, c10⟩ := old n (by omega)
        exact ⟨c1, c2, by rw [g3, pk_un e]; exact c3, by rw [g4, pk_un e]; exact c4, by rw [g5, pk_un e]; exact c5, by rw [g1 10 (by omega)]; exact c6, by rw [g1 11 (by omega)]; exact c7, by rw [g1 12 (by omega)]; exact c8, by rw [g1 13 (by omega)]; exact c9, by rw [g2]; exact c10⟩
    · rw [k.1 j (by omega), g1 j (by omega)]
      exact funext (fun i => aI j i (.inr (.inr (by omega))))
    · rw [k.2.1 j (by omega), g2]
      exact funext (fun i => aL j i (.inr (by omega)))
    · rw [k.2.1 6 (by omega), g2]
      exact funext (fun i => aL 6 i (.inr (by omega)))
theorem ok_newM (Γ : Ev) {σ : St} {ds : Nat → Dd} {N T : Nat} {V : Vw} {d : Dd} {x1 x2 x3 x4 x5 x6 x7 : Int32} (hd : dsOK ds N T) (hi : IM σ ds N T V)
    (hx : x1 = 0 → (¬ x2 < 0 ∧ x2 ≤ nI T) → dOK d ∧ d.rec = T ∧ x2 = nI d.fact ∧ d.fact ≤ T ∧ x3 = nI d.k ∧ x4 = nI d.a ∧ x5 = nI (if d.k = 1 then 8 * d.b + d.c else d.b) ∧ (d.k = 1 → x6 = nI d.f.1 ∧ x7 = nI d.f.2) ∧ (d.k = 2 → x6 = nI d.c) ∧ (d.k = 3 → x6 = nI d.c ∧ x7 = d.e))
    {post : Int32 → St → Prop} {thr : String → St → Prop}
    (h : x1 = 0 → (¬ x2 < 0 ∧ x2 ≤ nI T) → N < 40 → ∀ σ', IM σ' (va_up ds N d) (N + 1) T (newV (va_up ds N d) (N + 1) T) → sameC σ σ' → σ'.L 6 = σ.L 6 → σ'.I 20 0 = 0 → post (nI N) σ')
    (h1 : ¬ (x1 = 0 ∧ ¬ x2 < 0 ∧ x2 ≤ nI T) → post 0 (St.sI σ 20 0 1)) (h2 : x1 = 0 → (¬ x2 < 0 ∧ x2 ≤ nI T) → N = 40 → post 0 (St.sI σ 20 0 2)) : wp_M_file Γ x1 x2 x3 x4 x5 x6 x7 σ post thr := by
  have no : ¬ (x1 = 0 ∧ ¬ x2 < 0 ∧ x2 ≤ nI T) → wp_M_file_17 Γ post thr x2 x3 x4 x5 x6 x7 σ := fun w => ⟨fun y => absurd y (by rw [I_aI_s, pk_us]; decide), fun _ => h1 w⟩
  obtain ⟨i1, i2, i3, -, -⟩ := hi
  have hN := hd.1
  unfold wp_M_file
  rw [i1, i2]
  refine ⟨fun z => no (fun w => z w.1), fun z0 => ⟨fun z => no (fun w => w.2.1 z), fun z1 => ⟨fun z2 => ⟨fun z3 => ?_, fun z3 => ?_⟩, fun z => no (fun w => z w.2.2)⟩⟩⟩
  · have hN40 : N < 40 := by
      by_cases e : N = 40
      · exact absurd (by rw [e]; rfl) z3
      · omega
    obtain ⟨hok, hr, rfl, hf, rfl, rfl, rfl, q6, q7, q8⟩ := hx z0 ⟨z1, z2⟩
    refine ok_fileM Γ i2 i1 hN40 (fun σ2 g1 g2 g3 g4 g5 g6 g7 g8 g9 g10 g11 g12 g13 => ?_)
    refine im_look Γ (σ := σ2) (ds := va_up ds N d) (N := N + 1) (T := T) (ds_new hd hN40 hok hr hf) ⟨g5, g6, fun n hn => ?_⟩ hd.2.1 hd.2.1 (fun σ' a k => ?_)
    · by_cases e : n = N
      · subst e
        rw [va_up_self]
        exact ⟨by rw [g7, pk_us], by rw [g8, pk_us, hr], by rw [g9, pk_us], by rw [g10, pk_us], by rw [g11, pk_us], by rw [g12, g13, pk_us, pk_us]; exact q6, by rw [g12, pk_us]; exact q7, by rw [g12, g13, pk_us, pk_us]; exact q8⟩
      · rw [va_up_ne _ _ e]
        obtain ⟨d1, d2, d3, d4, d5, d6, d7, d8⟩ := i3 n (by omega)
        exact ⟨by rw [g7, pk_un e]; exact d1, by rw [g8, pk_un e]; exact d2, by rw [g9, pk_un e]; exact d3, by rw [g10, pk_un e]; exact d4, by rw [g11, pk_un e]; exact d5, by rw [g12, g13, pk_un e, pk_un e]; exact d6, by rw [g12, pk_un e]; exact d7, by rw [g12, g13, pk_un e, pk_un e]; exact d8⟩
    · rw [a.2.1, nI_pred]
      refine h z0 ⟨z1, z2⟩ hN40 σ' a ⟨fun j hj => ?_, fun j hj => ?_, ?_⟩ ?_ ?_
      · rw [k.1 j (by omega)]; exact g1 j (by omega)
      · rw [k.2.1 j (by omega), g2]
      · rw [k.2.2, g3]
      · rw [k.2.1 6 (by omega), g2]
      · rw [k.1 20 (by omega)]; exact g4
  · have hN40 : N = 40 := (nI_eq (b := 40) (by omega) (by decide)).mp z3
    exact ⟨fun y => absurd y (by rw [I_aI_s, pk_us]; decide), fun _ => h2 z0 ⟨z1, z2⟩ hN40⟩
