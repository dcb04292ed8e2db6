/-! The class's parcels: what their methods do -/
theorem sh_l : ∀ l, l < 32 → ((nI l &&& 31).toBitVec.smod 32).toNat = l := by decide +kernel
theorem sh_2 : ∀ l, l < 32 → ((1 : Int32) <<< (nI l &&& 31)).toBitVec = BitVec.twoPow 32 l := by decide +kernel
theorem ct_bit (w : Int32) {b : Nat} (hb : b < 32) : ((w >>> (nI b &&& 31)) &&& 1 = 0) ↔ w.toBitVec.getLsbD b = false := by
  have e : (w >>> (nI b &&& 31)).toBitVec = w.toBitVec.sshiftRight b := by
    rw [Int32.toBitVec_shiftRight]
    show w.toBitVec.sshiftRight ((nI b &&& 31).toBitVec.smod 32).toNat = _
    rw [sh_l b hb]
  rw [← Int32.toBitVec_inj, Int32.toBitVec_and, e]
  show (w.toBitVec.sshiftRight b &&& 1#32) = 0#32 ↔ _
  rw [BitVec.and_one_eq_setWidth_ofBool_getLsbD, BitVec.getLsbD_sshiftRight, Nat.add_zero, if_pos hb]
  cases hc : w.toBitVec.getLsbD b
  · exact ⟨fun _ => rfl, fun _ => by decide⟩
  · exact ⟨fun z => absurd z (by decide), fun z => by cases z⟩
theorem ct_set (w : Int32) {b : Nat} (hb : b < 32) (h : (w >>> (nI b &&& 31)) &&& 1 = 0) : w ||| ((1 : Int32) <<< (nI b &&& 31)) = w ^^^ ((1 : Int32) <<< (nI b &&& 31)) := by
  have := (ct_bit w hb).mp h
  refine xor_or ?_
  rw [← Int32.toBitVec_inj, Int32.toBitVec_and, sh_2 b hb, BitVec.and_twoPow, this]
  rfl
theorem ct_clr (w : Int32) {b : Nat} (hb : b < 32) (h : ¬ (w >>> (nI b &&& 31)) &&& 1 = 0) : w &&& (((1 : Int32) <<< (nI b &&& 31)) ^^^ -1) = w ^^^ ((1 : Int32) <<< (nI b &&& 31)) := by
  have : w.toBitVec.getLsbD b = true := by
    cases hc : w.toBitVec.getLsbD b
    · exact absurd ((ct_bit w hb).mpr hc) h
    · rfl
  refine xor_and ?_
  rw [← Int32.toBitVec_inj, Int32.toBitVec_and, sh_2 b hb, BitVec.and_twoPow, this]
  rfl
/-- nothing but parcel a has changed -/
def exA (a : Nat) (σ σ' : St) : Prop := (∀ k, k ≤ 5 → ∀ p, p ≠ a → σ'.I k p = σ.I k p) ∧ (∀ p, p ≠ a → σ'.L 1 p = σ.L 1 p) ∧ (∀ p, p < 80 → p ≠ a → σ'.I (100 + p) = σ.I (100 + p) ∧ σ'.I (200 + p) = σ.I (200 + p)) ∧ (∀ p, p < 80 → p ≠ a → σ'.L (100 + p) = σ.L (100 + p)) ∧ keepC σ σ'
theorem exA.rf {a : Nat} {σ : St} : exA a σ σ := ⟨fun _ _ _ _ => rfl, fun _ _ => rfl, fun _ _ _ => ⟨rfl, rfl⟩, fun _ _ _ => rfl, keepC.rf⟩
theorem exA.tr {a : Nat} {σ σ1 σ2 : St} (h : exA a σ σ1) (g : exA a σ1 σ2) : exA a σ σ2 := ⟨fun k hk p hp => (g.1 k hk p hp).trans (h.1 k hk p hp), fun p hp => (g.2.1 p hp).trans (h.2.1 p hp), fun p h1 h2 => ⟨(g.2.2.1 p h1 h2).1.trans (h.2.2.1 p h1 h2).1, (g.2.2.1 p h1 h2).2.trans (h.2.2.1 p h1 h2).2⟩, fun p h1 h2 => (g.2.2.2.1 p h1 h2).trans (h.2.2.2.1 p h1 h2), h.2.2.2.2.tr g.2.2.2.2⟩
theorem exA.I {a k : Nat} {σ : St} {v : Int32} (h0 : 1 ≤ k) (hk : k ≤ 5) : exA a σ (St.sI σ k a v) := by
  refine ⟨fun j hj p hp => ?_, fun _ _ => rfl, fun p h1 h2 => ⟨I_aI_n (by omega), I_aI_n (by omega)⟩, fun _ _ _ => rfl, keepC.I (by omega)⟩
  by_cases h : j = k
  · subst h; rw [I_aI_s]; exact pk_un hp
  · rw [I_aI_n h]
theorem exA.L {a : Nat} {σ : St} {v : Int64} : exA a σ (St.sL σ 1 a v) := by
  refine ⟨fun _ _ _ _ => rfl, fun p hp => ?_, fun _ _ _ => ⟨rfl, rfl⟩, fun p h1 h2 => L_aL_n (by omega), keepC.L (by omega)⟩
  rw [L_aL_s]; exact pk_uLn hp
theorem exA.I1 {a : Nat} {σ : St} {f : Nat → Int32} (ha : a < 80) : exA a σ (St.aI σ (100 + a) f) :=
  ⟨fun j hj p hp => by rw [I_aI_n (by omega)], fun _ _ => rfl, fun p h1 h2 => ⟨I_aI_n (by omega), I_aI_n (by omega)⟩, fun _ _ _ => rfl, keepC.I (by omega)⟩
theorem exA.I2 {a : Nat} {σ : St} {f : Nat → Int32} (ha : a < 80) : exA a σ (St.aI σ (200 + a) f) :=
  ⟨fun j hj p hp => by rw [I_aI_n (by omega)], fun _ _ => rfl, fun p h1 h2 => ⟨I_aI_n (by omega), I_aI_n (by omega)⟩, fun _ _ _ => rfl, keepC.I (by omega)⟩
theorem exA.L1 {a : Nat} {σ : St} {f : Nat → Int64} (ha : a < 80) : exA a σ (St.aL σ (100 + a) f) :=
  ⟨fun _ _ _ _ => rfl, fun p hp => by rw [L_aL_n (by omega)], fun _ _ _ => ⟨rfl, rfl⟩, fun p h1 h2 => L_aL_n (by omega), keepC.L (by omega)⟩
/-- parcel a's registers but for its life -/
def rD (σ : St) (p : Nat) (x : Pd) : Prop := σ.L 1 p = x.ar ∧ (∀ s, s < 8 → σ.L (100 + p) s = pkS (x.sh s)) ∧ σ.I 2 p = nI x.mn ∧ (∀ r, r < x.mn → σ.I (100 + p) r = (x.mo r).1 ∧ σ.I (200 + p) r = (x.mo r).2) ∧ σ.I 3 p = x.wn
theorem rD.ex {a p : Nat} {σ σ' : St} {x : Pd} (h : rD σ p x) (g : exA a σ σ') (hp : p < 80) (hne : p ≠ a) : rD σ' p x := by
  obtain ⟨h1, h2, h3, h4, h5⟩ := h
  obtain ⟨g1, g2, g3, g4, -⟩ := g
  exact ⟨(g2 p hne).trans h1, fun s hs => by rw [g4 p hp hne]; exact h2 s hs, (g1 2 (by omega) p hne).trans h3, fun r hr => by rw [(g3 p hp hne).1, (g3 p hp hne).2]; exact h4 r hr, (g1 3 (by omega) p hne).trans h5⟩
theorem RC_ex {σ σ' : St} {A : Land} {a : Nat} {P : Option Pd} {o : Int32 × Int32} (hR : RC σ A) (g : exA a σ σ') (hx : rC σ' a P) (hO : σ'.I 4 a = o.1 ∧ σ'.I 5 a = o.2) : RC σ' (setO (setP A a P) a o) := by
  obtain ⟨g1, g2, g3, g4, -⟩ := g
  refine ⟨fun p hp => ?_, fun p hp => ?_⟩
  · rw [setO_p]
    by_cases h : p = a
    · subst h; rw [setP_s]; exact hx
    · rw [setP_n h]
      exact rC_fr (g1 1 (by omega) p h) (g2 p h) (g4 p hp h) (g1 2 (by omega) p h) (g3 p hp h).1 (g3 p hp h).2 (g1 3 (by omega) p h) (hR.1 p hp)
  · by_cases h : p = a
    · subst h; rw [setO_s]; exact hO
    · rw [setO_n h, setP_o, g1 4 (by omega) p h, g1 5 (by omega) p h]; exact hR.2 p hp
theorem setO_id {A : Land} {a : Nat} {P : Option Pd} : setO (setP A a P) a (A.2 a) = setP A a P := by
  refine Prod.ext rfl (funext fun q => ?_)
  by_cases h : q = a
  · subst h; exact va_up_self _ _ _
  · exact va_up_ne _ _ h
/-- a change of parcel a that leaves its origins -/
theorem RC_ex1 {σ σ' : St} {A : Land} {a : Nat} {P : Option Pd} (hR : RC σ A) (ha : a < 80) (g : exA a σ σ') (hx : rC σ' a P) (hO : σ'.I 4 a = σ.I 4 a ∧ σ'.I 5 a = σ.I 5 a) : RC σ' (setP A a P) := by
  have z := RC_ex (o := A.2 a) hR g hx ⟨hO.1.trans (hR.2 a ha).1, hO.2.trans (hR.2 a ha).2⟩
  rw [setO_id] at z
  exact z
theorem ok_fill (Γ : Ev) {σ : St} {p : Nat} (hp : p < 80) {v : Int64} {post : St → Prop} {thr : String → St → Prop} (h : ∀ f : Nat → Int64, (∀ s, s < 8 → f s = v) → post (St.aL σ (100 + p) f)) : wp_Ar_fill Γ p v σ post thr := by
  have lp : ∀ (r i : Nat) (f : Nat → Int64), i + r = 8 → (∀ s, s < i → f s = v) → wp_Ar_fill_6 Γ post thr (r + 1) p v (nI i) 8 (St.aL σ (100 + p) f) := by
    intro r
    induction r with
    | zero =>
      intro i f hi hf
      obtain rfl : i = 8 := by omega
      exact ⟨hp, fun _ => h f hf, fun z => absurd (by decide) z⟩
    | succ r ih =>
      intro i f hi hf
      refine ⟨hp, fun z => absurd z (nI_ge (a := i) (b := 8) (by omega) (by decide)), fun _ => ⟨vp_in_nI (by omega) (by decide), ?_⟩⟩
      rw [nI_clamp (by omega), nI_1]
      have e : St.sL (St.aL σ (100 + p) f) (100 + p) i v = St.aL σ (100 + p) (vp_updL f i v) := by
        show St.aL (St.aL σ (100 + p) f) (100 + p) (vp_updL ((St.aL σ (100 + p) f).L (100 + p)) i v) = _
        rw [L_aL_s]
        refine Prod.ext rfl (Prod.ext (funext fun k => ?_) rfl)
        show va_up (va_up σ.L (100 + p) f) (100 + p) _ k = va_up σ.L (100 + p) _ k
        by_cases hk : k = 100 + p
        · subst hk; rw [va_up_self, va_up_self]
        · rw [va_up_ne _ _ hk, va_up_ne _ _ hk, va_up_ne _ _ hk]
      rw [e]
      refine ih (i + 1) _ (by omega) (fun s hs => ?_)
      by_cases hs1 : s = i
      · subst hs1; exact pk_uLs
      · rw [pk_uLn hs1]; exact hf s (by omega)
  have e0 : St.aL σ (100 + p) (σ.L (100 + p)) = σ := by
    refine Prod.ext rfl (Prod.ext (funext fun k => ?_) rfl)
    show va_up σ.L (100 + p) _ k = σ.L k
    by_cases hk : k = 100 + p
    · subst hk; rw [va_up_self]
    · rw [va_up_ne _ _ hk]
  have z := lp 8 0 (σ.L (100 + p)) (by omega) (fun s hs => absurd hs (Nat.not_lt_zero _))
  rw [e0] at z
  exact ⟨hp, 9, z⟩
