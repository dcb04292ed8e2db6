/-! A look, with the invariant -/
def IC0 (Γ : Ev) (σ : St) (ds : Nat → Dd) (N T : Nat) : Prop := Γ.nd = N ∧ σ.I 0 0 = nI N ∧ σ.I 0 1 = nI T ∧ ordC Γ σ (ordL ds N 61) ∧ (∀ n, n < N → σ.Rf 0 n = some (Γ.ad (344 + n))) ∧ ∀ n, n < N → dC Γ σ n (ds n)
def IM0 (σ : St) (ds : Nat → Dd) (N T : Nat) : Prop := σ.I 20 1 = nI T ∧ σ.I 20 2 = nI N ∧ ∀ n, n < N → dM σ n (ds n)
theorem IC.to0 {Γ : Ev} {σ : St} {ds : Nat → Dd} {N T : Nat} {V : Vw} (h : IC Γ σ ds N T V) : IC0 Γ σ ds N T := ⟨h.1, h.2.1, h.2.2.1, h.2.2.2.1, h.2.2.2.2.1, h.2.2.2.2.2.1⟩
theorem IM.to0 {σ : St} {ds : Nat → Dd} {N T : Nat} {V : Vw} (h : IM σ ds N T V) : IM0 σ ds N T := ⟨h.1, h.2.1, h.2.2.1⟩
theorem dsOK.len {ds : Nat → Dd} {N T : Nat} (h : dsOK ds N T) : (ordL ds N 61).length = N := ordL_len N (fun n hn => by have := (h.2.2 n hn).2.2; omega)
theorem ic_look (Γ : Ev) {σ : St} {ds : Nat → Dd} {N T rc fc : Nat} (hd : dsOK ds N T) (hi : IC0 Γ σ ds N T) (hrc : rc ≤ 60) (hfc : fc ≤ 60) {post : St → Prop} {thr : String → St → Prop} (h : ∀ σ', IC Γ σ' ds N T (viewA ds rc fc (ordL ds N 61)) → keepL σ σ' → post σ') : wp_LR_lookAt Γ (nI rc) (nI fc) σ post thr := by
  obtain ⟨h1, h2, h3, h4, h5, h6⟩ := hi
  have hl := hd.len
  have hm : ∀ n, n ∈ ordL ds N 61 → n < N := fun n hn => (ordL_mem.mp hn).1
  refine ok_lookC Γ (by rw [hl]; exact h2) (by rw [hl]; exact hd.1) h4 (ordL_nd 61) (fun n hn => ⟨h6 n (hm n hn), (hd.2.2 n (hm n hn)).1, by have := hm n hn; have := hd.1; omega, (hd.2.2 n (hm n hn)).2.1, (hd.2.2 n (hm n hn)).2.2⟩) hrc hfc (fun σ' k r o => h σ' ?_ k)
  refine ⟨h1, by rw [k.1 0 (by omega)]; exact h2, by rw [k.1 0 (by omega)]; exact h3, fun d n hd => by rw [k.2.2]; exact h4 d n hd, fun n hn => by rw [k.2.2]; exact h5 n hn, fun n hn => (h6 n hn).keep k, r, fun n hn => o n (ordL_mem.mpr ⟨hn, by have := (hd.2.2 n hn).2.2; omega⟩)⟩
theorem im_look (Γ : Ev) {σ : St} {ds : Nat → Dd} {N T rc fc : Nat} (hd : dsOK ds N T) (hi : IM0 σ ds N T) (hrc : rc ≤ 60) (hfc : fc ≤ 60) {post : St → Prop} {thr : String → St → Prop} (h : ∀ σ', IM σ' ds N T (viewA ds rc fc (ordL ds N 61)) → keepN σ σ' → post σ') : wp_M_look Γ (nI rc) (nI fc) σ post thr := by
  obtain ⟨h1, h2, h3⟩ := hi
  refine ok_lookM Γ h2 hd.1 (by rw [hd.len]; exact hd.1) (fun n hn => ⟨h3 n hn, (hd.2.2 n hn).1, (hd.2.2 n hn).2.1, (hd.2.2 n hn).2.2⟩) hrc hfc (fun σ' k r o => h σ' ?_ k)
  exact ⟨by rw [k.1 20 (by omega)]; exact h1, by rw [k.1 20 (by omega)]; exact h2, fun n hn => (h3 n hn).keep k, r, o⟩
theorem dC.keep' {Γ : Ev} {σ : St} {n : Nat} {d : Dd} {f : Nat → Int32} (h : dC Γ σ n d) (_ : ∀ k, 1 ≤ k → (σ.aI 0 f).I k = σ.I k) : dC Γ (σ.aI 0 f) n d := by
  obtain ⟨c1, c2, c3, c4, c5, c6, c7, c8, c9, c10⟩ := h
  refine ⟨c1, c2, ?_, ?_, ?_, ?_, ?_, ?_, ?_, c10⟩
  all_goals rw [I_aI_n (by decide)]
  all_goals assumption
theorem ok_dayC (Γ : Ev) {σ : St} {ds : Nat → Dd} {N T : Nat} (hd : dsOK ds N T) (hi : IC0 Γ σ ds N T) {post : Int32 → St → Prop} {thr : String → St → Prop} (h : T < 60 → ∀ σ', IC Γ σ' ds N (T + 1) (viewA ds (T + 1) (T + 1) (ordL ds N 61)) → sameM σ σ' → σ'.L 6 = σ.L 6 → post (nI (T + 1)) σ') (hx : T = 60 → thr "java/lang/IllegalStateException" σ) : wp_LR_day Γ σ post thr := by
  obtain ⟨h1, h2, h3, h4, h5, h6⟩ := hi
  have hT := hd.2.1
  unfold wp_LR_day
  rw [h3]
  refine ⟨fun z => ?_, fun z => hx ?_⟩
  · have hlt : T < 60 := (nI_ltI (b := 60) (by omega) (by decide)).mp z
    rw [nI_1, show St.I (St.sI σ 0 1 (nI (T + 1))) 0 1 = nI (T + 1) by rw [I_aI_s, pk_us]]
    refine ic_look Γ (σ := St.sI σ 0 1 (nI (T + 1))) (T := T + 1) ⟨hd.1, by omega, hd.2.2⟩ ⟨h1, by rw [I_aI_s, pk_un (by decide)]; exact h2, by rw [I_aI_s, pk_us], h4, h5, fun n hn => (h6 n hn).keep' ?_⟩ (by omega) (by omega) (fun σ' a k => ?_)
    · intro k hk; exact I_aI_n (by omega)
    · rw [a.2.2.1]
      exact h hlt σ' a ⟨fun j hj => (k.1 j (by omega)).trans (I_aI_n (by omega)), fun j hj => k.2.1 j (by omega)⟩ (k.2.1 6 (by omega))
  · by_cases w : T = 60
    · exact w
    · exact absurd (nI_lt (b := 60) (by omega) (by decide)) z
