section SCR
variable {p : Program} {l : Launch} {e : Env} {R : Room} {s : State} {m : MethodId} {args : Array Value} {below : List Frame} {meth : Method} {c : Code} {ym : MethodName} {cc : ByteArray} {nL : Nat} {ret : Option FieldType} {xt : List (Nat × Nat × Nat × Nat)} {D : va_G} {AC : Nat → ClassId} {lo : Nat}
  {post : Option Value → Wst → Prop} {thr : String → Wst → Prop} {w : Wst} {k n pc : Nat} {lv : List (Nat × Value)} {st : List Value}
theorem g_sld {b L : Nat} {xs : Nat → Int32} {x : Int32} (hX : Cx p s m args meth c ym cc nL ret xt D AC lo) (hs : va_X b L xs s s.heap) (hb : b < lo) (hin : vp_in x L) (hd : decode cc pc = .ok (.iaload, 1)) (kk : G p l e R s m args below meth c nL D lo post thr w k n (pc + 1) lv (.int (xs x.toNatClampNeg) :: st)) : G p l e R s m args below meth c nL D lo post thr w k n pc lv (.int x :: .ref b :: st) :=
  fun H locs ls cells slots h => va_sld hX.1.1 hX.1.2.1 hs (Nat.lt_of_lt_of_le hb hX.2.2.2.2.2.1) (Nat.not_le.mpr hb) h.2.2.1 hin hd (kk H locs ls cells slots h)
theorem g_slen {b L : Nat} {xs : Nat → Int32} (hX : Cx p s m args meth c ym cc nL ret xt D AC lo) (hs : va_X b L xs s s.heap) (hb : b < lo) (hd : decode cc pc = .ok (.arraylength, 1)) (kk : G p l e R s m args below meth c nL D lo post thr w k n (pc + 1) lv (.int (Int32.ofNat L) :: st)) : G p l e R s m args below meth c nL D lo post thr w k n pc lv (.ref b :: st) :=
  fun H locs ls cells slots h => va_slen hX.1.1 hX.1.2.1 hs (Nat.lt_of_lt_of_le hb hX.2.2.2.2.2.1) (Nat.not_le.mpr hb) h.2.2.1 hd (kk H locs ls cells slots h)
end SCR
def wl_law (L : Nat) (xs : Nat → Int32) : Nat → Ev → Int32 → St → Prop
  | 0 => fun _ _ _ => False
  | fuel + 1 => fun Γ i σ => ((((Int32.ofNat L) - (7 : Int32)) < i → True) ∧ (¬ ((Int32.ofNat L) - (7 : Int32)) < i → (vp_in i L ∧ ((((((xs (i).toNatClampNeg) &&& (31 : Int32))).toInt < 0 ∨ 19 < (((xs (i).toNatClampNeg) &&& (31 : Int32))).toInt) → wl_law L xs fuel Γ ((i + 7)) (σ)) ∧ (((xs (i).toNatClampNeg) &&& (31 : Int32)) = 0 → (vp_in (i + (1 : Int32)) L ∧ (vp_in (i + (2 : Int32)) L ∧ (vp_in (i + (3 : Int32)) L ∧ wp_W_found Γ ((xs ((i + (1 : Int32))).toNatClampNeg)) ((xs ((i + (2 : Int32))).toNatClampNeg)) ((xs ((i + (3 : Int32))).toNatClampNeg)) (σ) (fun v6 Γ8 σ7 => (vp_in (i + (1 : Int32)) L ∧ (vp_in (i + (2 : Int32)) L ∧ (vp_in (i + (3 : Int32)) L ∧ wp_M_found Γ8 ((xs ((i + (1 : Int32))).toNatClampNeg)) ((xs ((i + (2 : Int32))).toNatClampNeg)) ((xs ((i + (3 : Int32))).toNatClampNeg)) (σ7) (fun v12 σ13 => wp_M_thrown Γ8  (σ13) (fun v14 σ15 => ((v14 = v6 → ((¬ v6 = 0 → wl_law L xs fuel Γ8 ((i + 7)) (σ15)) ∧ (v6 = 0 → (((lg_cmp (St.L (σ15) 6 (0 : Int32).toNatClampNeg) (Int32.toInt64 v12)) = 0 → wl_law L xs fuel Γ8 ((i + 7)) (σ15)) ∧ (¬ (lg_cmp (St.L (σ15) 6 (0 : Int32).toNatClampNeg) (Int32.toInt64 v12)) = 0 → False))))) ∧ (¬ v14 = v6 → False))) (fun _ _ => False)) (fun _ _ => False))))))))) ∧ (((xs (i).toNatClampNeg) &&& (31 : Int32)) = 1 → (vp_in (i + (1 : Int32)) L ∧ (vp_in (i + (2 : Int32)) L ∧ (vp_in (i + (3 : Int32)) L ∧ (vp_in (i + (4 : Int32)) L ∧ (vp_in (i + (5 : Int32)) L ∧ (vp_in (i + (6 : Int32)) L ∧ wp_W_sell Γ ((xs ((i + (1 : Int32))).toNatClampNeg)) ((xs ((i + (2 : Int32))).toNatClampNeg)) ((xs ((i + (3 : Int32))).toNatClampNeg)) ((xs ((i + (4 : Int32))).toNatClampNeg)) ((((Int32.toInt64 (xs ((i + (5 : Int32))).toNatClampNeg)) <<< (Int32.toInt64 (32 : Int32) &&& 63)) ||| ((Int32.toInt64 (xs ((i + (6 : Int32))).toNatClampNeg)) &&& (4294967295 : Int64)))) (σ) (fun v25 Γ27 σ26 => (vp_in (i + (1 : Int32)) L ∧ (vp_in (i + (2 : Int32)) L ∧ (vp_in (i + (3 : Int32)) L ∧ (vp_in (i + (4 : Int32)) L ∧ (vp_in (i + (5 : Int32)) L ∧ (vp_in (i + (6 : Int32)) L ∧ wp_M_sell Γ27 ((xs ((i + (1 : Int32))).toNatClampNeg)) ((xs ((i + (2 : Int32))).toNatClampNeg)) ((xs ((i + (3 : Int32))).toNatClampNeg)) ((xs ((i + (4 : Int32))).toNatClampNeg)) ((((Int32.toInt64 (xs ((i + (5 : Int32))).toNatClampNeg)) <<< (Int32.toInt64 (32 : Int32) &&& 63)) ||| ((Int32.toInt64 (xs ((i + (6 : Int32))).toNatClampNeg)) &&& (4294967295 : Int64)))) (σ26) (fun v34 σ35 => wp_M_thrown Γ27  (σ35) (fun v36 σ37 => ((v36 = v25 → ((¬ v25 = 0 → wl_law L xs fuel Γ27 ((i + 7)) (σ37)) ∧ (v25 = 0 → (((lg_cmp (St.L (σ37) 6 (0 : Int32).toNatClampNeg) (Int32.toInt64 v34)) = 0 → wl_law L xs fuel Γ27 ((i + 7)) (σ37)) ∧ (¬ (lg_cmp (St.L (σ37) 6 (0 : Int32).toNatClampNeg) (Int32.toInt64 v34)) = 0 → False))))) ∧ (¬ v36 = v25 → False))) (fun _ _ => False)) (fun _ _ => False))))))))))))))) ∧ (((xs (i).toNatClampNeg) &&& (31 : Int32)) = 2 → (vp_in (i + (1 : Int32)) L ∧ (vp_in (i + (2 : Int32)) L ∧ (vp_in (i + (3 : Int32)) L ∧ (vp_in (i + (4 : Int32)) L ∧ wp_W_pledge Γ ((xs ((i + (1 : Int32))).toNatClampNeg)) ((xs ((i + (2 : Int32))).toNatClampNeg)) ((xs ((i + (3 : Int32))).toNatClampNeg)) ((xs ((i + (4 : Int32))).toNatClampNeg)) (σ) (fun v45 Γ47 σ46 => (vp_in (i + (1 : Int32)) L ∧ (vp_in (i + (2 : Int32)) L ∧ (vp_in (i + (3 : Int32)) L ∧ (vp_in (i + (4 : Int32)) L ∧ wp_M_pledge Γ47 ((xs ((i + (1 : Int32))).toNatClampNeg)) ((xs ((i + (2 : Int32))).toNatClampNeg)) ((xs ((i + (3 : Int32))).toNatClampNeg)) ((xs ((i + (4 : Int32))).toNatClampNeg)) (σ46) (fun v52 σ53 => wp_M_thrown Γ47  (σ53) (fun v54 σ55 => ((v54 = v45 → ((¬ v45 = 0 → wl_law L xs fuel Γ47 ((i + 7)) (σ55)) ∧ (v45 = 0 → (((lg_cmp (St.L (σ55) 6 (0 : Int32).toNatClampNeg) (Int32.toInt64 v52)) = 0 → wl_law L xs fuel Γ47 ((i + 7)) (σ55)) ∧ (¬ (lg_cmp (St.L (σ55) 6 (0 : Int32).toNatClampNeg) (Int32.toInt64 v52)) = 0 → False))))) ∧ (¬ v54 = v45 → False))) (fun _ _ => False)) (fun _ _ => False))))))))))) ∧ (((xs (i).toNatClampNeg) &&& (31 : Int32)) = 3 → (vp_in (i + (1 : Int32)) L ∧ (vp_in (i + (2 : Int32)) L ∧ (vp_in (i + (3 : Int32)) L ∧ (vp_in (i + (4 : Int32)) L ∧ (vp_in (i + (5 : Int32)) L ∧ wp_W_rerank Γ ((xs ((i + (1 : Int32))).toNatClampNeg)) ((xs ((i + (2 : Int32))).toNatClampNeg)) ((xs ((i + (3 : Int32))).toNatClampNeg)) ((xs ((i + (4 : Int32))).toNatClampNeg)) ((xs ((i + (5 : Int32))).toNatClampNeg)) (σ) (fun v64 Γ66 σ65 => (vp_in (i + (1 : Int32)) L ∧ (vp_in (i + (2 : Int32)) L ∧ (vp_in (i + (3 : Int32)) L ∧ (vp_in (i + (4 : Int32)) L ∧ (vp_in (i + (5 : Int32)) L ∧ wp_M_rerank Γ66 ((xs ((i + (1 : Int32))).toNatClampNeg)) ((xs ((i + (2 : Int32))).toNatClampNeg)) ((xs ((i + (3 : Int32))).toNatClampNeg)) ((xs ((i + (4 : Int32))).toNatClampNeg)) ((xs ((i + (5 : Int32))).toNatClampNeg)) (σ65) (fun v72 σ73 => wp_M_thrown Γ66  (σ73) (fun v74 σ75 => ((v74 = v64 → ((¬ v64 = 0 → wl_law L xs fuel Γ66 ((i + 7)) (σ75)) ∧ (v64 = 0 → (((lg_cmp (St.L (σ75) 6 (0 : Int32).toNatClampNeg) (Int32.toInt64 v72)) = 0 → wl_law L xs fuel Γ66 ((i + 7)) (σ75)) ∧ (¬ (lg_cmp (St.L (σ75) 6 (0 : Int32).toNatClampNeg) (Int32.toInt64 v72)) = 0 → False))))) ∧ (¬ v74 = v64 → False))) (fun _ _ => False)) (fun _ _ => False))))))))))))) ∧ (((xs (i).toNatClampNeg) &&& (31 : Int32)) = 4 → (vp_in (i + (1 : Int32)) L ∧ (vp_in (i + (2 : Int32)) L ∧ (vp_in (i + (3 : Int32)) L ∧ wp_W_release Γ ((xs ((i + (1 : Int32))).toNatClampNeg)) ((xs ((i + (2 : Int32))).toNatClampNeg)) ((xs ((i + (3 : Int32))).toNatClampNeg)) (σ) (fun v82 Γ84 σ83 => (vp_in (i + (1 : Int32)) L ∧ (vp_in (i + (2 : Int32)) L ∧ (vp_in (i + (3 : Int32)) L ∧ wp_M_release Γ84 ((xs ((i + (1 : Int32))).toNatClampNeg)) ((xs ((i + (2 : Int32))).toNatClampNeg)) ((xs ((i + (3 : Int32))).toNatClampNeg)) (σ83) (fun v88 σ89 => wp_M_thrown Γ84  (σ89) (fun v90 σ91 => ((v90 = v82 → ((¬ v82 = 0 → wl_law L xs fuel Γ84 ((i + 7)) (σ91)) ∧ (v82 = 0 → (((lg_cmp (St.L (σ91) 6 (0 : Int32).toNatClampNeg) (Int32.toInt64 v88)) = 0 → wl_law L xs fuel Γ84 ((i + 7)) (σ91)) ∧ (¬ (lg_cmp (St.L (σ91) 6 (0 : Int32).toNatClampNeg) (Int32.toInt64 v88)) = 0 → False))))) ∧ (¬ v90 = v82 → False))) (fun _ _ => False)) (fun _ _ => False))))))))) ∧ (((xs (i).toNatClampNeg) &&& (31 : Int32)) = 5 → (vp_in (i + (1 : Int32)) L ∧ (vp_in (i + (2 : Int32)) L ∧ (vp_in (i + (3 : Int32)) L ∧ wp_W_caution Γ ((xs ((i + (1 : Int32))).toNatClampNeg)) ((xs ((i + (2 : Int32))).toNatClampNeg)) ((xs ((i + (3 : Int32))).toNatClampNeg)) (σ) (fun v98 Γ100 σ99 => (vp_in (i + (1 : Int32)) L ∧ (vp_in (i + (2 : Int32)) L ∧ (vp_in (i + (3 : Int32)) L ∧ wp_M_caution Γ100 ((xs ((i + (1 : Int32))).toNatClampNeg)) ((xs ((i + (2 : Int32))).toNatClampNeg)) ((xs ((i + (3 : Int32))).toNatClampNeg)) (σ99) (fun v104 σ105 => wp_M_thrown Γ100  (σ105) (fun v106 σ107 => ((v106 = v98 → ((¬ v98 = 0 → wl_law L xs fuel Γ100 ((i + 7)) (σ107)) ∧ (v98 = 0 → (((lg_cmp (St.L (σ107) 6 (0 : Int32).toNatClampNeg) (Int32.toInt64 v104)) = 0 → wl_law L xs fuel Γ100 ((i + 7)) (σ107)) ∧ (¬ (lg_cmp (St.L (σ107) 6 (0 : Int32).toNatClampNeg) (Int32.toInt64 v104)) = 0 → False))))) ∧ (¬ v106 = v98 → False))) (fun _ _ => False)) (fun _ _ => False))))))))) ∧ (((xs (i).toNatClampNeg) &&& (31 : Int32)) = 6 → (vp_in (i + (1 : Int32)) L ∧ (vp_in (i + (2 : Int32)) L ∧ (vp_in (i + (3 : Int32)) L ∧ wp_W_lift Γ ((xs ((i + (1 : Int32))).toNatClampNeg)) ((xs ((i + (2 : Int32))).toNatClampNeg)) ((xs ((i + (3 : Int32))).toNatClampNeg)) (σ) (fun v114 Γ116 σ115 => (vp_in (i + (1 : Int32)) L ∧ (vp_in (i + (2 : Int32)) L ∧ (vp_in (i + (3 : Int32)) L ∧ wp_M_lift Γ116 ((xs ((i + (1 : Int32))).toNatClampNeg)) ((xs ((i + (2 : Int32))).toNatClampNeg)) ((xs ((i + (3 : Int32))).toNatClampNeg)) (σ115) (fun v120 σ121 => wp_M_thrown Γ116  (σ121) (fun v122 σ123 => ((v122 = v114 → ((¬ v114 = 0 → wl_law L xs fuel Γ116 ((i + 7)) (σ123)) ∧ (v114 = 0 → (((lg_cmp (St.L (σ123) 6 (0 : Int32).toNatClampNeg) (Int32.toInt64 v120)) = 0 → wl_law L xs fuel Γ116 ((i + 7)) (σ123)) ∧ (¬ (lg_cmp (St.L (σ123) 6 (0 : Int32).toNatClampNeg) (Int32.toInt64 v120)) = 0 → False))))) ∧ (¬ v122 = v114 → False))) (fun _ _ => False)) (fun _ _ => False))))))))) ∧ (((xs (i).toNatClampNeg) &&& (31 : Int32)) = 7 → (vp_in (i + (1 : Int32)) L ∧ (vp_in (i + (2 : Int32)) L ∧ (vp_in (i + (3 : Int32)) L ∧ wp_W_split Γ ((xs ((i + (1 : Int32))).toNatClampNeg)) ((xs ((i + (2 : Int32))).toNatClampNeg)) ((xs ((i + (3 : Int32))).toNatClampNeg)) (σ) (fun v130 Γ132 σ131 => (vp_in (i + (1 : Int32)) L ∧ (vp_in (i + (2 : Int32)) L ∧ (vp_in (i + (3 : Int32)) L ∧ wp_M_split Γ132 ((xs ((i + (1 : Int32))).toNatClampNeg)) ((xs ((i + (2 : Int32))).toNatClampNeg)) ((xs ((i + (3 : Int32))).toNatClampNeg)) (σ131) (fun v136 σ137 => wp_M_thrown Γ132  (σ137) (fun v138 σ139 => ((v138 = v130 → ((¬ v130 = 0 → wl_law L xs fuel Γ132 ((i + 7)) (σ139)) ∧ (v130 = 0 → (((lg_cmp (St.L (σ139) 6 (0 : Int32).toNatClampNeg) (Int32.toInt64 v136)) = 0 → wl_law L xs fuel Γ132 ((i + 7)) (σ139)) ∧ (¬ (lg_cmp (St.L (σ139) 6 (0 : Int32).toNatClampNeg) (Int32.toInt64 v136)) = 0 → False))))) ∧ (¬ v138 = v130 → False))) (fun _ _ => False)) (fun _ _ => False))))))))) ∧ (((xs (i).toNatClampNeg) &&& (31 : Int32)) = 8 → (vp_in (i + (1 : Int32)) L ∧ (vp_in (i + (2 : Int32)) L ∧ (vp_in (i + (3 : Int32)) L ∧ wp_W_merge Γ ((xs ((i + (1 : Int32))).toNatClampNeg)) ((xs ((i + (2 : Int32))).toNatClampNeg)) ((xs ((i + (3 : Int32))).toNatClampNeg)) (σ) (fun v146 Γ148 σ147 => (vp_in (i + (1 : Int32)) L ∧ (vp_in (i + (2 : Int32)) L ∧ (vp_in (i + (3 : Int32)) L ∧ wp_M_merge Γ148 ((xs ((i + (1 : Int32))).toNatClampNeg)) ((xs ((i + (2 : Int32))).toNatClampNeg)) ((xs ((i + (3 : Int32))).toNatClampNeg)) (σ147) (fun v152 σ153 => wp_M_thrown Γ148  (σ153) (fun v154 σ155 => ((v154 = v146 → ((¬ v146 = 0 → wl_law L xs fuel Γ148 ((i + 7)) (σ155)) ∧ (v146 = 0 → (((lg_cmp (St.L (σ155) 6 (0 : Int32).toNatClampNeg) (Int32.toInt64 v152)) = 0 → wl_law L xs fuel Γ148 ((i + 7)) (σ155)) ∧ (¬ (lg_cmp (St.L (σ155) 6 (0 : Int32).toNatClampNeg) (Int32.toInt64 v152)) = 0 → False))))) ∧ (¬ v154 = v146 → False))) (fun _ _ => False)) (fun _ _ => False))))))))) ∧ (((xs (i).toNatClampNeg) &&& (31 : Int32)) = 9 → wp_W_day Γ  (σ) (fun v159 σ160 => wp_M_day Γ  (σ160) (fun v161 σ162 => wp_M_thrown Γ  (σ162) (fun v163 σ164 => ((v163 = v159 → ((¬ v159 = 0 → wl_law L xs fuel Γ ((i + 7)) (σ164)) ∧ (v159 = 0 → (((lg_cmp (St.L (σ164) 6 (0 : Int32).toNatClampNeg) (Int32.toInt64 v161)) = 0 → wl_law L xs fuel Γ ((i + 7)) (σ164)) ∧ (¬ (lg_cmp (St.L (σ164) 6 (0 : Int32).toNatClampNeg) (Int32.toInt64 v161)) = 0 → False))))) ∧ (¬ v163 = v159 → False))) (fun _ _ => False)) (fun _ _ => False))) ∧ (((xs (i).toNatClampNeg) &&& (31 : Int32)) = 10 → (vp_in (i + (1 : Int32)) L ∧ (vp_in (i + (2 : Int32)) L ∧ wp_W_view Γ ((xs ((i + (1 : Int32))).toNatClampNeg)) ((xs ((i + (2 : Int32))).toNatClampNeg)) (σ) (fun v170 σ171 => (vp_in (i + (1 : Int32)) L ∧ (vp_in (i + (2 : Int32)) L ∧ wp_M_view Γ ((xs ((i + (1 : Int32))).toNatClampNeg)) ((xs ((i + (2 : Int32))).toNatClampNeg)) (σ171) (fun v174 σ175 => wp_M_thrown Γ  (σ175) (fun v176 σ177 => ((v176 = v170 → ((¬ v170 = 0 → wl_law L xs fuel Γ ((i + 7)) (σ177)) ∧ (v170 = 0 → (((lg_cmp (St.L (σ177) 6 (0 : Int32).toNatClampNeg) (Int32.toInt64 v174)) = 0 → wl_law L xs fuel Γ ((i + 7)) (σ177)) ∧ (¬ (lg_cmp (St.L (σ177) 6 (0 : Int32).toNatClampNeg) (Int32.toInt64 v174)) = 0 → False))))) ∧ (¬ v176 = v170 → False))) (fun _ _ => False)) (fun _ _ => False))))))) ∧ (((xs (i).toNatClampNeg) &&& (31 : Int32)) = 11 → (vp_in (i + (1 : Int32)) L ∧ wp_LR_parcel Γ ((xs ((i + (1 : Int32))).toNatClampNeg)) (σ) (fun v182 σ183 => (vp_in (i + (1 : Int32)) L ∧ wp_M_parcel Γ ((xs ((i + (1 : Int32))).toNatClampNeg)) (σ183) (fun v185 σ186 => ((v182 = v185 → wl_law L xs fuel Γ ((i + 7)) (σ186)) ∧ (¬ v182 = v185 → False))) (fun _ _ => False))) (fun _ _ => False))) ∧ (((xs (i).toNatClampNeg) &&& (31 : Int32)) = 12 → (vp_in (i + (1 : Int32)) L ∧ wp_W_area Γ ((xs ((i + (1 : Int32))).toNatClampNeg)) (σ) (fun v189 σ190 => (vp_in (i + (1 : Int32)) L ∧ wp_M_area Γ ((xs ((i + (1 : Int32))).toNatClampNeg)) (σ190) (fun v192 σ193 => wp_M_thrown Γ  (σ193) (fun v194 σ195 => ((v194 = v189 → ((¬ v189 = 0 → wl_law L xs fuel Γ ((i + 7)) (σ195)) ∧ (v189 = 0 → (((lg_cmp (St.L (σ195) 6 (0 : Int32).toNatClampNeg) v192) = 0 → wl_law L xs fuel Γ ((i + 7)) (σ195)) ∧ (¬ (lg_cmp (St.L (σ195) 6 (0 : Int32).toNatClampNeg) v192) = 0 → False))))) ∧ (¬ v194 = v189 → False))) (fun _ _ => False)) (fun _ _ => False))))) ∧ (((xs (i).toNatClampNeg) &&& (31 : Int32)) = 13 → (vp_in (i + (1 : Int32)) L ∧ (vp_in (i + (2 : Int32)) L ∧ wp_W_share Γ ((xs ((i + (1 : Int32))).toNatClampNeg)) ((xs ((i + (2 : Int32))).toNatClampNeg)) (σ) (fun v201 σ202 => (vp_in (i + (1 : Int32)) L ∧ (vp_in (i + (2 : Int32)) L ∧ wp_M_share Γ ((xs ((i + (1 : Int32))).toNatClampNeg)) ((xs ((i + (2 : Int32))).toNatClampNeg)) (σ202) (fun v205 σ206 => wp_M_thrown Γ  (σ206) (fun v207 σ208 => ((v207 = v201 → ((¬ v201 = 0 → wl_law L xs fuel Γ ((i + 7)) (σ208)) ∧ (v201 = 0 → (((lg_cmp (St.L (σ208) 6 (0 : Int32).toNatClampNeg) v205) = 0 → wl_law L xs fuel Γ ((i + 7)) (σ208)) ∧ (¬ (lg_cmp (St.L (σ208) 6 (0 : Int32).toNatClampNeg) v205) = 0 → False))))) ∧ (¬ v207 = v201 → False))) (fun _ _ => False)) (fun _ _ => False))))))) ∧ (((xs (i).toNatClampNeg) &&& (31 : Int32)) = 14 → (vp_in (i + (1 : Int32)) L ∧ (vp_in (i + (2 : Int32)) L ∧ (vp_in (i + (3 : Int32)) L ∧ wp_W_mortgage Γ ((xs ((i + (1 : Int32))).toNatClampNeg)) ((xs ((i + (2 : Int32))).toNatClampNeg)) ((xs ((i + (3 : Int32))).toNatClampNeg)) (σ) (fun v215 σ216 => (vp_in (i + (1 : Int32)) L ∧ (vp_in (i + (2 : Int32)) L ∧ (vp_in (i + (3 : Int32)) L ∧ wp_M_mortgage Γ ((xs ((i + (1 : Int32))).toNatClampNeg)) ((xs ((i + (2 : Int32))).toNatClampNeg)) ((xs ((i + (3 : Int32))).toNatClampNeg)) (σ216) (fun v220 σ221 => wp_M_thrown Γ  (σ221) (fun v222 σ223 => ((v222 = v215 → ((¬ v215 = 0 → wl_law L xs fuel Γ ((i + 7)) (σ223)) ∧ (v215 = 0 → (((lg_cmp (St.L (σ223) 6 (0 : Int32).toNatClampNeg) (Int32.toInt64 v220)) = 0 → wl_law L xs fuel Γ ((i + 7)) (σ223)) ∧ (¬ (lg_cmp (St.L (σ223) 6 (0 : Int32).toNatClampNeg) (Int32.toInt64 v220)) = 0 → False))))) ∧ (¬ v222 = v215 → False))) (fun _ _ => False)) (fun _ _ => False))))))))) ∧ (((xs (i).toNatClampNeg) &&& (31 : Int32)) = 15 → (vp_in (i + (1 : Int32)) L ∧ wp_W_cautions Γ ((xs ((i + (1 : Int32))).toNatClampNeg)) (σ) (fun v228 σ229 => (vp_in (i + (1 : Int32)) L ∧ wp_M_cautions Γ ((xs ((i + (1 : Int32))).toNatClampNeg)) (σ229) (fun v231 σ232 => wp_M_thrown Γ  (σ232) (fun v233 σ234 => ((v233 = v228 → ((¬ v228 = 0 → wl_law L xs fuel Γ ((i + 7)) (σ234)) ∧ (v228 = 0 → (((lg_cmp (St.L (σ234) 6 (0 : Int32).toNatClampNeg) (Int32.toInt64 v231)) = 0 → wl_law L xs fuel Γ ((i + 7)) (σ234)) ∧ (¬ (lg_cmp (St.L (σ234) 6 (0 : Int32).toNatClampNeg) (Int32.toInt64 v231)) = 0 → False))))) ∧ (¬ v233 = v228 → False))) (fun _ _ => False)) (fun _ _ => False))))) ∧ (((xs (i).toNatClampNeg) &&& (31 : Int32)) = 16 → (vp_in (i + (1 : Int32)) L ∧ (vp_in (i + (2 : Int32)) L ∧ wp_W_origin Γ ((xs ((i + (1 : Int32))).toNatClampNeg)) ((xs ((i + (2 : Int32))).toNatClampNeg)) (σ) (fun v240 σ241 => (vp_in (i + (1 : Int32)) L ∧ (vp_in (i + (2 : Int32)) L ∧ wp_M_origin Γ ((xs ((i + (1 : Int32))).toNatClampNeg)) ((xs ((i + (2 : Int32))).toNatClampNeg)) (σ241) (fun v244 σ245 => wp_M_thrown Γ  (σ245) (fun v246 σ247 => ((v246 = v240 → ((¬ v240 = 0 → wl_law L xs fuel Γ ((i + 7)) (σ247)) ∧ (v240 = 0 → (((lg_cmp (St.L (σ247) 6 (0 : Int32).toNatClampNeg) (Int32.toInt64 v244)) = 0 → wl_law L xs fuel Γ ((i + 7)) (σ247)) ∧ (¬ (lg_cmp (St.L (σ247) 6 (0 : Int32).toNatClampNeg) (Int32.toInt64 v244)) = 0 → False))))) ∧ (¬ v246 = v240 → False))) (fun _ _ => False)) (fun _ _ => False))))))) ∧ (((xs (i).toNatClampNeg) &&& (31 : Int32)) = 17 → (vp_in (i + (1 : Int32)) L ∧ (vp_in (i + (2 : Int32)) L ∧ wp_W_holding Γ ((xs ((i + (1 : Int32))).toNatClampNeg)) ((xs ((i + (2 : Int32))).toNatClampNeg)) (σ) (fun v253 σ254 => (vp_in (i + (1 : Int32)) L ∧ (vp_in (i + (2 : Int32)) L ∧ wp_M_holding Γ ((xs ((i + (1 : Int32))).toNatClampNeg)) ((xs ((i + (2 : Int32))).toNatClampNeg)) (σ254) (fun v257 σ258 => wp_M_thrown Γ  (σ258) (fun v259 σ260 => ((v259 = v253 → ((¬ v253 = 0 → wl_law L xs fuel Γ ((i + 7)) (σ260)) ∧ (v253 = 0 → (((lg_cmp (St.L (σ260) 6 (0 : Int32).toNatClampNeg) (Int32.toInt64 v257)) = 0 → wl_law L xs fuel Γ ((i + 7)) (σ260)) ∧ (¬ (lg_cmp (St.L (σ260) 6 (0 : Int32).toNatClampNeg) (Int32.toInt64 v257)) = 0 → False))))) ∧ (¬ v259 = v253 → False))) (fun _ _ => False)) (fun _ _ => False))))))) ∧ (((xs (i).toNatClampNeg) &&& (31 : Int32)) = 18 → (vp_in (i + (1 : Int32)) L ∧ wp_W_owed Γ ((xs ((i + (1 : Int32))).toNatClampNeg)) (σ) (fun v265 σ266 => (vp_in (i + (1 : Int32)) L ∧ wp_M_owed Γ ((xs ((i + (1 : Int32))).toNatClampNeg)) (σ266) (fun v268 σ269 => wp_M_thrown Γ  (σ269) (fun v270 σ271 => ((v270 = v265 → ((¬ v265 = 0 → wl_law L xs fuel Γ ((i + 7)) (σ271)) ∧ (v265 = 0 → (((lg_cmp (St.L (σ271) 6 (0 : Int32).toNatClampNeg) v268) = 0 → wl_law L xs fuel Γ ((i + 7)) (σ271)) ∧ (¬ (lg_cmp (St.L (σ271) 6 (0 : Int32).toNatClampNeg) v268) = 0 → False))))) ∧ (¬ v270 = v265 → False))) (fun _ _ => False)) (fun _ _ => False))))) ∧ (((xs (i).toNatClampNeg) &&& (31 : Int32)) = 19 → (vp_in (i + (1 : Int32)) L ∧ wp_W_state Γ ((xs ((i + (1 : Int32))).toNatClampNeg)) (σ) (fun v276 σ277 => (vp_in (i + (1 : Int32)) L ∧ wp_M_state Γ ((xs ((i + (1 : Int32))).toNatClampNeg)) (σ277) (fun v279 σ280 => wp_M_thrown Γ  (σ280) (fun v281 σ282 => ((v281 = v276 → ((¬ v276 = 0 → wl_law L xs fuel Γ ((i + 7)) (σ282)) ∧ (v276 = 0 → (((lg_cmp (St.L (σ282) 6 (0 : Int32).toNatClampNeg) (Int32.toInt64 v279)) = 0 → wl_law L xs fuel Γ ((i + 7)) (σ282)) ∧ (¬ (lg_cmp (St.L (σ282) 6 (0 : Int32).toNatClampNeg) (Int32.toInt64 v279)) = 0 → False))))) ∧ (¬ v281 = v276 → False))) (fun _ _ => False)) (fun _ _ => False)))))))))
set_option maxRecDepth 100000 in
set_option maxHeartbeats 4000000 in
theorem b_law {p : Program} {l : Launch} {e : Env} {s : State} {m : MethodId} {args : Array Value} {below : List Frame} {meth : Method} {c : Code} {D : va_G} {AC : Nat → ClassId} {lo b L x0 m0 o0 : Nat} {xs : Nat → Int32} {thr : String → Wst → Prop} (hl : l.flags = pinnedFlags ++ [noTraceFlag]) (hX : Cx p s m args meth c x code 8 (some .boolean) [] D AC lo) (hs : va_X b L xs s s.heap) (hbl : b < lo) : ∀ (fuel : Nat) (Γ : Ev) (i : Int32) (σ : St), Γ.ad 0 = x0 → Γ.ad 324 = m0 → Γ.ad 343 = o0 → wl_law L xs fuel Γ i σ → G p l e room_1 s m args below meth c 8 D lo (fun o _ => o = some (.int 1)) thr (wσ AC Γ σ) (8 * fuel) (50 * fuel) 23 [(0, .ref b), (1, .ref x0), (2, .ref m0), (3, .ref o0), (4, .int (i))] [] := by
  intro fuel
  induction fuel with
  | zero => intro Γ i σ h0 h1 h2 h; exact False.elim h
  | succ fuel ih =>
    intro Γ i σ h0 h1 h2 h
    simp only [wl_law] at h
    refine g_less (k' := 8 * fuel + 8) (n' := 50 * fuel + 50) (by omega) (by omega) ?_
    refine g_iload hX d_W_law_23 4 rfl ?_
    refine g_aload_n hX d_W_law_25 rfl 0 rfl ?_
    refine g_slen hX hs hbl d_W_law_26 ?_
    refine g_bipush (v := 7) hX d_W_law_27 (by decide) ?_
    refine g_isub hX d_W_law_29 ?_
    refine g_icmp_gt (tgt := 1598) hX d_W_law_30 (by decide) (fun q1 => ?_) (fun q1 => ?_)
    · have h := h.1 q1
      refine g_iconst (v := 1) hX d_W_law_1598 (by decide) ?_
      exact g_zret hX rfl d_W_law_1599 (by decide) rfl
    · have h := h.2 q1
      refine g_aload_n hX d_W_law_33 rfl 0 rfl ?_
      refine g_iload hX d_W_law_34 4 rfl ?_
      obtain ⟨q2, h⟩ := h
      refine g_sld hX hs hbl q2 d_W_law_36 ?_
      refine g_bipush (v := 31) hX d_W_law_37 (by decide) ?_
      refine g_iand hX d_W_law_39 ?_
      rcases sw_0_19 (((xs (i).toNatClampNeg) &&& (31 : Int32))) with hx | hx | hx | hx | hx | hx | hx | hx | hx | hx | hx | hx | hx | hx | hx | hx | hx | hx | hx | hx | hx
      · have h := h.1 hx
        refine g_tableOut (tgt := 1592) hX d_W_law_40 hx (by decide) ?_
        refine g_iinc (v := i + 7) hX d_W_law_1592 4 rfl (congrArg (i + ·) (by decide)) (by decide) rfl ?_
        refine g_goto (tgt := 23) hX d_W_law_1595 (by decide) ?_
        refine g_sub [1, 2, 3, 4, 0] rfl ?_
        refine g_less (k' := 8 * fuel) (n' := 50 * fuel) (by omega) (by omega) ?_
        exact ih Γ ((i + 7)) (σ) h0 h1 h2 h
      · have h := h.2.1 hx
        refine g_tableIn (tgt := 136) hX d_W_law_40 (by rw [hx]; decide) (by rw [hx]; decide) (by rw [hx]; rfl) (by decide) ?_
        refine g_aload_n hX d_W_law_136 rfl 1 rfl ?_
        refine g_aload_n hX d_W_law_137 rfl 0 rfl ?_
        refine g_iload hX d_W_law_138 4 rfl ?_
        refine g_iconst (v := 1) hX d_W_law_140 (by decide) ?_
        refine g_iadd hX d_W_law_141 ?_
        obtain ⟨q3, h⟩ := h
        refine g_sld hX hs hbl q3 d_W_law_142 ?_
        refine g_aload_n hX d_W_law_143 rfl 0 rfl ?_
        refine g_iload hX d_W_law_144 4 rfl ?_
        refine g_iconst (v := 2) hX d_W_law_146 (by decide) ?_
        refine g_iadd hX d_W_law_147 ?_
        obtain ⟨q4, h⟩ := h
        refine g_sld hX hs hbl q4 d_W_law_148 ?_
        refine g_aload_n hX d_W_law_149 rfl 0 rfl ?_
        refine g_iload hX d_W_law_150 4 rfl ?_
        refine g_iconst (v := 3) hX d_W_law_152 (by decide) ?_
        refine g_iadd hX d_W_law_153 ?_
        obtain ⟨q5, h⟩ := h
        refine g_sld hX hs hbl q5 d_W_law_154 ?_
        refine g_aload_n hX d_W_law_155 rfl 3 rfl ?_
        refine g_less (k' := 8 * fuel + 5) (n' := 50 * fuel + 30) (by omega) (by omega) ?_
        have z := c_W_found (l := l) (D := D) (AC := AC) (lo := lo) (thr := fun _ _ => False) hl h
        rw [h0, h2] at z
        refine g_callS (k := 8 * fuel) (n := 50 * fuel) hX z hdT_W_found hdO_W_found t_0 t_118 t_119 ⟨⟨by decide, by decide⟩, np_W_found⟩ ⟨Nat.le_of_ble_eq_true rfl, Nat.le_of_ble_eq_true rfl⟩ (Nat.le_of_ble_eq_true rfl) d_W_law_156 rfl ?_ (fun _ _ z => by obtain ⟨_, _, zz⟩ := z; exact zz.elim)
        rintro _ _ ⟨v6, Γ8, σ7, rfl, rfl, hA, h⟩
        have h0 := (hA 0 (by decide)).trans h0
        have h1 := (hA 324 (by decide)).trans h1
        have h2 := (hA 343 (by decide)).trans h2
        refine g_istore hX d_W_law_159 (by decide) rfl ?_
        refine g_aload_n hX d_W_law_161 rfl 3 rfl ?_
        refine g_aload_n hX d_W_law_162 rfl 1 rfl ?_
        refine g_iload hX d_W_law_163 5 rfl ?_
        refine g_iconst (v := 1) hX d_W_law_165 (by decide) ?_
        refine g_iadd hX d_W_law_166 ?_
        obtain ⟨q9, h⟩ := h
        refine g_sld hX hs hbl q9 d_W_law_167 ?_
        refine g_aload_n hX d_W_law_168 rfl 1 rfl ?_
        refine g_iload hX d_W_law_169 5 rfl ?_
        refine g_iconst (v := 2) hX d_W_law_171 (by decide) ?_
        refine g_iadd hX d_W_law_172 ?_
        obtain ⟨q10, h⟩ := h
        refine g_sld hX hs hbl q10 d_W_law_173 ?_
        refine g_aload_n hX d_W_law_174 rfl 1 rfl ?_
        refine g_iload hX d_W_law_175 5 rfl ?_
        refine g_iconst (v := 3) hX d_W_law_177 (by decide) ?_
        refine g_iadd hX d_W_law_178 ?_
        obtain ⟨q11, h⟩ := h
        refine g_sld hX hs hbl q11 d_W_law_179 ?_
        have z := c_M_found (l := l) (D := D) (AC := AC) (lo := lo) (thr := fun _ _ => False) h
        rw [h1] at z
        refine g_callV (i := 324) (k := 8 * fuel) (n := 50 * fuel) hX z hdT_M_found hdO_M_found t_3 t_874 t_875 t_876 (lt_c (by decide)) h1 (lay_MO (AC := AC) (Γ := Γ8)) rfl ⟨⟨by decide, by decide⟩, np_M_found⟩ ⟨Nat.le_of_ble_eq_true rfl, Nat.le_of_ble_eq_true rfl⟩ (Nat.le_of_ble_eq_true rfl) d_W_law_180 rfl ?_ (fun _ _ z => by obtain ⟨_, _, zz⟩ := z; exact zz.elim)
        rintro _ _ ⟨v12, σ13, rfl, rfl, h⟩
        refine g_istore hX d_W_law_183 (by decide) rfl ?_
        refine g_aload_n hX d_W_law_185 rfl 4 rfl ?_
        have z := c_M_thrown (l := l) (D := D) (AC := AC) (lo := lo) (thr := fun _ _ => False) h
        rw [h1] at z
        refine g_callV (i := 324) (k := 8 * fuel) (n := 50 * fuel) hX z hdT_M_thrown hdO_M_thrown t_3 t_870 t_871 t_872 (lt_c (by decide)) h1 (lay_MO (AC := AC) (Γ := Γ8)) rfl ⟨⟨by decide, by decide⟩, np_M_thrown⟩ ⟨Nat.le_of_ble_eq_true rfl, Nat.le_of_ble_eq_true rfl⟩ (Nat.le_of_ble_eq_true rfl) d_W_law_186 rfl ?_ (fun _ _ z => by obtain ⟨_, _, zz⟩ := z; exact zz.elim)
        rintro _ _ ⟨v14, σ15, rfl, rfl, h⟩
        refine g_iload hX d_W_law_189 1 rfl ?_
        refine g_icmp_eq (tgt := 196) hX d_W_law_191 (by decide) (fun q16 => ?_) (fun q16 => ?_)
        · have h := h.1 q16
          refine g_iload hX d_W_law_196 1 rfl ?_
          refine g_if_ne (tgt := 213) hX d_W_law_198 (by decide) (fun q17 => ?_) (fun q17 => ?_)
          · have h := h.1 q17
            refine g_goto (tgt := 1592) hX d_W_law_213 (by decide) ?_
            refine g_iinc (v := i + 7) hX d_W_law_1592 6 rfl (congrArg (i + ·) (by decide)) (by decide) rfl ?_
            refine g_goto (tgt := 23) hX d_W_law_1595 (by decide) ?_
            refine g_sub [3, 4, 5, 6, 0] rfl ?_
            refine g_less (k' := 8 * fuel) (n' := 50 * fuel) (by omega) (by omega) ?_
            exact ih Γ8 ((i + 7)) (σ15) h0 h1 h2 h
          · have h := h.2 q17
            refine g_aload_n hX d_W_law_201 rfl 5 rfl ?_
            refine g_iconst (v := 0) hX d_W_law_202 (by decide) ?_
            refine g_lald (i := 343) hX (lt_c (by decide)) h2 (lay_m18 (AC := AC) (Γ := Γ8)) (by unfold vp_in; decide) d_W_law_203 ?_
            refine g_iload hX d_W_law_204 0 rfl ?_
            refine g_i2l hX d_W_law_206 ?_
            refine g_lcmp hX d_W_law_207 ?_
            refine g_if_eq (tgt := 213) hX d_W_law_208 (by decide) (fun q18 => ?_) (fun q18 => ?_)
            · have h := h.1 q18
              refine g_goto (tgt := 1592) hX d_W_law_213 (by decide) ?_
              refine g_iinc (v := i + 7) hX d_W_law_1592 6 rfl (congrArg (i + ·) (by decide)) (by decide) rfl ?_
              refine g_goto (tgt := 23) hX d_W_law_1595 (by decide) ?_
              refine g_sub [3, 4, 5, 6, 0] rfl ?_
              refine g_less (k' := 8 * fuel) (n' := 50 * fuel) (by omega) (by omega) ?_
              exact ih Γ8 ((i + 7)) (σ15) h0 h1 h2 h
            · have h := h.2 q18
              refine g_iconst (v := 0) hX d_W_law_211 (by decide) ?_
              exact h.elim
        · have h := h.2 q16
          refine g_iconst (v := 0) hX d_W_law_194 (by decide) ?_
          exact h.elim
      · have h := h.2.2.1 hx
        refine g_tableIn (tgt := 216) hX d_W_law_40 (by rw [hx]; decide) (by rw [hx]; decide) (by rw [hx]; rfl) (by decide) ?_
        refine g_aload_n hX d_W_law_216 rfl 1 rfl ?_
        refine g_aload_n hX d_W_law_217 rfl 0 rfl ?_
        refine g_iload hX d_W_law_218 4 rfl ?_
        refine g_iconst (v := 1) hX d_W_law_220 (by decide) ?_
        refine g_iadd hX d_W_law_221 ?_
        obtain ⟨q19, h⟩ := h
        refine g_sld hX hs hbl q19 d_W_law_222 ?_
        refine g_aload_n hX d_W_law_223 rfl 0 rfl ?_
        refine g_iload hX d_W_law_224 4 rfl ?_
        refine g_iconst (v := 2) hX d_W_law_226 (by decide) ?_
        refine g_iadd hX d_W_law_227 ?_
        obtain ⟨q20, h⟩ := h
        refine g_sld hX hs hbl q20 d_W_law_228 ?_
        refine g_aload_n hX d_W_law_229 rfl 0 rfl ?_
        refine g_iload hX d_W_law_230 4 rfl ?_
        refine g_iconst (v := 3) hX d_W_law_232 (by decide) ?_
        refine g_iadd hX d_W_law_233 ?_
        obtain ⟨q21, h⟩ := h
        refine g_sld hX hs hbl q21 d_W_law_234 ?_
        refine g_aload_n hX d_W_law_235 rfl 0 rfl ?_
        refine g_iload hX d_W_law_236 4 rfl ?_
        refine g_iconst (v := 4) hX d_W_law_238 (by decide) ?_
        refine g_iadd hX d_W_law_239 ?_
        obtain ⟨q22, h⟩ := h
        refine g_sld hX hs hbl q22 d_W_law_240 ?_
        refine g_aload_n hX d_W_law_241 rfl 0 rfl ?_
        refine g_iload hX d_W_law_242 4 rfl ?_
        refine g_iconst (v := 5) hX d_W_law_244 (by decide) ?_
        refine g_iadd hX d_W_law_245 ?_
        obtain ⟨q23, h⟩ := h
        refine g_sld hX hs hbl q23 d_W_law_246 ?_
        refine g_i2l hX d_W_law_247 ?_
        refine g_bipush (v := 32) hX d_W_law_248 (by decide) ?_
        refine g_lshl hX d_W_law_250 ?_
        refine g_aload_n hX d_W_law_251 rfl 0 rfl ?_
        refine g_iload hX d_W_law_252 4 rfl ?_
        refine g_bipush (v := 6) hX d_W_law_254 (by decide) ?_
        refine g_iadd hX d_W_law_256 ?_
        obtain ⟨q24, h⟩ := h
        refine g_sld hX hs hbl q24 d_W_law_257 ?_
        refine g_i2l hX d_W_law_258 ?_
        refine g_ldc2 (v := 4294967295) hX t_969 d_W_law_259 ?_
        refine g_land hX d_W_law_262 ?_
        refine g_lor hX d_W_law_263 ?_
        refine g_aload_n hX d_W_law_264 rfl 3 rfl ?_
        refine g_less (k' := 8 * fuel + 8) (n' := 50 * fuel + 50) (by omega) (by omega) ?_
        have z := c_W_sell (l := l) (D := D) (AC := AC) (lo := lo) (thr := fun _ _ => False) hl h
        rw [h0, h2] at z
        refine g_callS (k := 8 * fuel) (n := 50 * fuel) hX z hdT_W_sell hdO_W_sell t_0 t_424 t_425 ⟨⟨by decide, by decide⟩, np_W_sell⟩ ⟨Nat.le_of_ble_eq_true rfl, Nat.le_of_ble_eq_true rfl⟩ (Nat.le_of_ble_eq_true rfl) d_W_law_265 rfl ?_ (fun _ _ z => by obtain ⟨_, _, zz⟩ := z; exact zz.elim)
        rintro _ _ ⟨v25, Γ27, σ26, rfl, rfl, hA, h⟩
        have h0 := (hA 0 (by decide)).trans h0
        have h1 := (hA 324 (by decide)).trans h1
        have h2 := (hA 343 (by decide)).trans h2
        refine g_istore hX d_W_law_268 (by decide) rfl ?_
        refine g_aload_n hX d_W_law_270 rfl 3 rfl ?_
        refine g_aload_n hX d_W_law_271 rfl 1 rfl ?_
        refine g_iload hX d_W_law_272 5 rfl ?_
        refine g_iconst (v := 1) hX d_W_law_274 (by decide) ?_
        refine g_iadd hX d_W_law_275 ?_
        obtain ⟨q28, h⟩ := h
        refine g_sld hX hs hbl q28 d_W_law_276 ?_
        refine g_aload_n hX d_W_law_277 rfl 1 rfl ?_
        refine g_iload hX d_W_law_278 5 rfl ?_
        refine g_iconst (v := 2) hX d_W_law_280 (by decide) ?_
        refine g_iadd hX d_W_law_281 ?_
        obtain ⟨q29, h⟩ := h
        refine g_sld hX hs hbl q29 d_W_law_282 ?_
        refine g_aload_n hX d_W_law_283 rfl 1 rfl ?_
        refine g_iload hX d_W_law_284 5 rfl ?_
        refine g_iconst (v := 3) hX d_W_law_286 (by decide) ?_
        refine g_iadd hX d_W_law_287 ?_
        obtain ⟨q30, h⟩ := h
        refine g_sld hX hs hbl q30 d_W_law_288 ?_
        refine g_aload_n hX d_W_law_289 rfl 1 rfl ?_
        refine g_iload hX d_W_law_290 5 rfl ?_
        refine g_iconst (v := 4) hX d_W_law_292 (by decide) ?_
        refine g_iadd hX d_W_law_293 ?_
        obtain ⟨q31, h⟩ := h
        refine g_sld hX hs hbl q31 d_W_law_294 ?_
        refine g_aload_n hX d_W_law_295 rfl 1 rfl ?_
        refine g_iload hX d_W_law_296 5 rfl ?_
        refine g_iconst (v := 5) hX d_W_law_298 (by decide) ?_
        refine g_iadd hX d_W_law_299 ?_
        obtain ⟨q32, h⟩ := h
        refine g_sld hX hs hbl q32 d_W_law_300 ?_
        refine g_i2l hX d_W_law_301 ?_
        refine g_bipush (v := 32) hX d_W_law_302 (by decide) ?_
        refine g_lshl hX d_W_law_304 ?_
        refine g_aload_n hX d_W_law_305 rfl 1 rfl ?_
        refine g_iload hX d_W_law_306 5 rfl ?_
        refine g_bipush (v := 6) hX d_W_law_308 (by decide) ?_
        refine g_iadd hX d_W_law_310 ?_
        obtain ⟨q33, h⟩ := h
        refine g_sld hX hs hbl q33 d_W_law_311 ?_
        refine g_i2l hX d_W_law_312 ?_
        refine g_ldc2 (v := 4294967295) hX t_969 d_W_law_313 ?_
        refine g_land hX d_W_law_316 ?_
        refine g_lor hX d_W_law_317 ?_
        have z := c_M_sell (l := l) (D := D) (AC := AC) (lo := lo) (thr := fun _ _ => False) h
        rw [h1] at z
        refine g_callV (i := 324) (k := 8 * fuel) (n := 50 * fuel) hX z hdT_M_sell hdO_M_sell t_3 t_889 t_890 t_891 (lt_c (by decide)) h1 (lay_MO (AC := AC) (Γ := Γ27)) rfl ⟨⟨by decide, by decide⟩, np_M_sell⟩ ⟨Nat.le_of_ble_eq_true rfl, Nat.le_of_ble_eq_true rfl⟩ (Nat.le_of_ble_eq_true rfl) d_W_law_318 rfl ?_ (fun _ _ z => by obtain ⟨_, _, zz⟩ := z; exact zz.elim)
        rintro _ _ ⟨v34, σ35, rfl, rfl, h⟩
        refine g_istore hX d_W_law_321 (by decide) rfl ?_
        refine g_aload_n hX d_W_law_323 rfl 4 rfl ?_
        have z := c_M_thrown (l := l) (D := D) (AC := AC) (lo := lo) (thr := fun _ _ => False) h
        rw [h1] at z
        refine g_callV (i := 324) (k := 8 * fuel) (n := 50 * fuel) hX z hdT_M_thrown hdO_M_thrown t_3 t_870 t_871 t_872 (lt_c (by decide)) h1 (lay_MO (AC := AC) (Γ := Γ27)) rfl ⟨⟨by decide, by decide⟩, np_M_thrown⟩ ⟨Nat.le_of_ble_eq_true rfl, Nat.le_of_ble_eq_true rfl⟩ (Nat.le_of_ble_eq_true rfl) d_W_law_324 rfl ?_ (fun _ _ z => by obtain ⟨_, _, zz⟩ := z; exact zz.elim)
        rintro _ _ ⟨v36, σ37, rfl, rfl, h⟩
        refine g_iload hX d_W_law_327 1 rfl ?_
        refine g_icmp_eq (tgt := 334) hX d_W_law_329 (by decide) (fun q38 => ?_) (fun q38 => ?_)
        · have h := h.1 q38
          refine g_iload hX d_W_law_334 1 rfl ?_
          refine g_if_ne (tgt := 351) hX d_W_law_336 (by decide) (fun q39 => ?_) (fun q39 => ?_)
          · have h := h.1 q39
            refine g_goto (tgt := 1592) hX d_W_law_351 (by decide) ?_
            refine g_iinc (v := i + 7) hX d_W_law_1592 6 rfl (congrArg (i + ·) (by decide)) (by decide) rfl ?_
            refine g_goto (tgt := 23) hX d_W_law_1595 (by decide) ?_
            refine g_sub [3, 4, 5, 6, 0] rfl ?_
            refine g_less (k' := 8 * fuel) (n' := 50 * fuel) (by omega) (by omega) ?_
            exact ih Γ27 ((i + 7)) (σ37) h0 h1 h2 h
          · have h := h.2 q39
            refine g_aload_n hX d_W_law_339 rfl 5 rfl ?_
            refine g_iconst (v := 0) hX d_W_law_340 (by decide) ?_
            refine g_lald (i := 343) hX (lt_c (by decide)) h2 (lay_m18 (AC := AC) (Γ := Γ27)) (by unfold vp_in; decide) d_W_law_341 ?_
            refine g_iload hX d_W_law_342 0 rfl ?_
            refine g_i2l hX d_W_law_344 ?_
            refine g_lcmp hX d_W_law_345 ?_
            refine g_if_eq (tgt := 351) hX d_W_law_346 (by decide) (fun q40 => ?_) (fun q40 => ?_)
            · have h := h.1 q40
              refine g_goto (tgt := 1592) hX d_W_law_351 (by decide) ?_
              refine g_iinc (v := i + 7) hX d_W_law_1592 6 rfl (congrArg (i + ·) (by decide)) (by decide) rfl ?_
              refine g_goto (tgt := 23) hX d_W_law_1595 (by decide) ?_
              refine g_sub [3, 4, 5, 6, 0] rfl ?_
              refine g_less (k' := 8 * fuel) (n' := 50 * fuel) (by omega) (by omega) ?_
              exact ih Γ27 ((i + 7)) (σ37) h0 h1 h2 h
            · have h := h.2 q40
              refine g_iconst (v := 0) hX d_W_law_349 (by decide) ?_
              exact h.elim
        · have h := h.2 q38
          refine g_iconst (v := 0) hX d_W_law_332 (by decide) ?_
          exact h.elim
      · have h := h.2.2.2.1 hx
        refine g_tableIn (tgt := 354) hX d_W_law_40 (by rw [hx]; decide) (by rw [hx]; decide) (by rw [hx]; rfl) (by decide) ?_
        refine g_aload_n hX d_W_law_354 rfl 1 rfl ?_
        refine g_aload_n hX d_W_law_355 rfl 0 rfl ?_
        refine g_iload hX d_W_law_356 4 rfl ?_
        refine g_iconst (v := 1) hX d_W_law_358 (by decide) ?_
        refine g_iadd hX d_W_law_359 ?_
        obtain ⟨q41, h⟩ := h
        refine g_sld hX hs hbl q41 d_W_law_360 ?_
        refine g_aload_n hX d_W_law_361 rfl 0 rfl ?_
        refine g_iload hX d_W_law_362 4 rfl ?_
        refine g_iconst (v := 2) hX d_W_law_364 (by decide) ?_
        refine g_iadd hX d_W_law_365 ?_
        obtain ⟨q42, h⟩ := h
        refine g_sld hX hs hbl q42 d_W_law_366 ?_
        refine g_aload_n hX d_W_law_367 rfl 0 rfl ?_
        refine g_iload hX d_W_law_368 4 rfl ?_
        refine g_iconst (v := 3) hX d_W_law_370 (by decide) ?_
        refine g_iadd hX d_W_law_371 ?_
        obtain ⟨q43, h⟩ := h
        refine g_sld hX hs hbl q43 d_W_law_372 ?_
        refine g_aload_n hX d_W_law_373 rfl 0 rfl ?_
        refine g_iload hX d_W_law_374 4 rfl ?_
        refine g_iconst (v := 4) hX d_W_law_376 (by decide) ?_
        refine g_iadd hX d_W_law_377 ?_
        obtain ⟨q44, h⟩ := h
        refine g_sld hX hs hbl q44 d_W_law_378 ?_
        refine g_aload_n hX d_W_law_379 rfl 3 rfl ?_
        refine g_less (k' := 8 * fuel + 6) (n' := 50 * fuel + 37) (by omega) (by omega) ?_
        have z := c_W_pledge (l := l) (D := D) (AC := AC) (lo := lo) (thr := fun _ _ => False) hl h
        rw [h0, h2] at z
        refine g_callS (k := 8 * fuel) (n := 50 * fuel) hX z hdT_W_pledge hdO_W_pledge t_0 t_467 t_468 ⟨⟨by decide, by decide⟩, np_W_pledge⟩ ⟨Nat.le_of_ble_eq_true rfl, Nat.le_of_ble_eq_true rfl⟩ (Nat.le_of_ble_eq_true rfl) d_W_law_380 rfl ?_ (fun _ _ z => by obtain ⟨_, _, zz⟩ := z; exact zz.elim)
        rintro _ _ ⟨v45, Γ47, σ46, rfl, rfl, hA, h⟩
        have h0 := (hA 0 (by decide)).trans h0
        have h1 := (hA 324 (by decide)).trans h1
        have h2 := (hA 343 (by decide)).trans h2
        refine g_istore hX d_W_law_383 (by decide) rfl ?_
        refine g_aload_n hX d_W_law_385 rfl 3 rfl ?_
        refine g_aload_n hX d_W_law_386 rfl 1 rfl ?_
        refine g_iload hX d_W_law_387 5 rfl ?_
        refine g_iconst (v := 1) hX d_W_law_389 (by decide) ?_
        refine g_iadd hX d_W_law_390 ?_
        obtain ⟨q48, h⟩ := h
        refine g_sld hX hs hbl q48 d_W_law_391 ?_
        refine g_aload_n hX d_W_law_392 rfl 1 rfl ?_
        refine g_iload hX d_W_law_393 5 rfl ?_
        refine g_iconst (v := 2) hX d_W_law_395 (by decide) ?_
        refine g_iadd hX d_W_law_396 ?_
        obtain ⟨q49, h⟩ := h
        refine g_sld hX hs hbl q49 d_W_law_397 ?_
        refine g_aload_n hX d_W_law_398 rfl 1 rfl ?_
        refine g_iload hX d_W_law_399 5 rfl ?_
        refine g_iconst (v := 3) hX d_W_law_401 (by decide) ?_
        refine g_iadd hX d_W_law_402 ?_
        obtain ⟨q50, h⟩ := h
        refine g_sld hX hs hbl q50 d_W_law_403 ?_
        refine g_aload_n hX d_W_law_404 rfl 1 rfl ?_
        refine g_iload hX d_W_law_405 5 rfl ?_
        refine g_iconst (v := 4) hX d_W_law_407 (by decide) ?_
        refine g_iadd hX d_W_law_408 ?_
        obtain ⟨q51, h⟩ := h
        refine g_sld hX hs hbl q51 d_W_law_409 ?_
        have z := c_M_pledge (l := l) (D := D) (AC := AC) (lo := lo) (thr := fun _ _ => False) h
        rw [h1] at z
        refine g_callV (i := 324) (k := 8 * fuel) (n := 50 * fuel) hX z hdT_M_pledge hdO_M_pledge t_3 t_897 t_898 t_899 (lt_c (by decide)) h1 (lay_MO (AC := AC) (Γ := Γ47)) rfl ⟨⟨by decide, by decide⟩, np_M_pledge⟩ ⟨Nat.le_of_ble_eq_true rfl, Nat.le_of_ble_eq_true rfl⟩ (Nat.le_of_ble_eq_true rfl) d_W_law_410 rfl ?_ (fun _ _ z => by obtain ⟨_, _, zz⟩ := z; exact zz.elim)
        rintro _ _ ⟨v52, σ53, rfl, rfl, h⟩
        refine g_istore hX d_W_law_413 (by decide) rfl ?_
        refine g_aload_n hX d_W_law_415 rfl 4 rfl ?_
        have z := c_M_thrown (l := l) (D := D) (AC := AC) (lo := lo) (thr := fun _ _ => False) h
        rw [h1] at z
        refine g_callV (i := 324) (k := 8 * fuel) (n := 50 * fuel) hX z hdT_M_thrown hdO_M_thrown t_3 t_870 t_871 t_872 (lt_c (by decide)) h1 (lay_MO (AC := AC) (Γ := Γ47)) rfl ⟨⟨by decide, by decide⟩, np_M_thrown⟩ ⟨Nat.le_of_ble_eq_true rfl, Nat.le_of_ble_eq_true rfl⟩ (Nat.le_of_ble_eq_true rfl) d_W_law_416 rfl ?_ (fun _ _ z => by obtain ⟨_, _, zz⟩ := z; exact zz.elim)
        rintro _ _ ⟨v54, σ55, rfl, rfl, h⟩
        refine g_iload hX d_W_law_419 1 rfl ?_
        refine g_icmp_eq (tgt := 426) hX d_W_law_421 (by decide) (fun q56 => ?_) (fun q56 => ?_)
        · have h := h.1 q56
          refine g_iload hX d_W_law_426 1 rfl ?_
          refine g_if_ne (tgt := 443) hX d_W_law_428 (by decide) (fun q57 => ?_) (fun q57 => ?_)
          · have h := h.1 q57
            refine g_goto (tgt := 1592) hX d_W_law_443 (by decide) ?_
            refine g_iinc (v := i + 7) hX d_W_law_1592 6 rfl (congrArg (i + ·) (by decide)) (by decide) rfl ?_
            refine g_goto (tgt := 23) hX d_W_law_1595 (by decide) ?_
            refine g_sub [3, 4, 5, 6, 0] rfl ?_
            refine g_less (k' := 8 * fuel) (n' := 50 * fuel) (by omega) (by omega) ?_
            exact ih Γ47 ((i + 7)) (σ55) h0 h1 h2 h
          · have h := h.2 q57
            refine g_aload_n hX d_W_law_431 rfl 5 rfl ?_
            refine g_iconst (v := 0) hX d_W_law_432 (by decide) ?_
            refine g_lald (i := 343) hX (lt_c (by decide)) h2 (lay_m18 (AC := AC) (Γ := Γ47)) (by unfold vp_in; decide) d_W_law_433 ?_
            refine g_iload hX d_W_law_434 0 rfl ?_
            refine g_i2l hX d_W_law_436 ?_
            refine g_lcmp hX d_W_law_437 ?_
            refine g_if_eq (tgt := 443) hX d_W_law_438 (by decide) (fun q58 => ?_) (fun q58 => ?_)
            · have h := h.1 q58
              refine g_goto (tgt := 1592) hX d_W_law_443 (by decide) ?_
              refine g_iinc (v := i + 7) hX d_W_law_1592 6 rfl (congrArg (i + ·) (by decide)) (by decide) rfl ?_
              refine g_goto (tgt := 23) hX d_W_law_1595 (by decide) ?_
              refine g_sub [3, 4, 5, 6, 0] rfl ?_
              refine g_less (k' := 8 * fuel) (n' := 50 * fuel) (by omega) (by omega) ?_
              exact ih Γ47 ((i + 7)) (σ55) h0 h1 h2 h
            · have h := h.2 q58
              refine g_iconst (v := 0) hX d_W_law_441 (by decide) ?_
              exact h.elim
        · have h := h.2 q56
          refine g_iconst (v := 0) hX d_W_law_424 (by decide) ?_
          exact h.elim
      · have h := h.2.2.2.2.1 hx
        refine g_tableIn (tgt := 446) hX d_W_law_40 (by rw [hx]; decide) (by rw [hx]; decide) (by rw [hx]; rfl) (by decide) ?_
        refine g_aload_n hX d_W_law_446 rfl 1 rfl ?_
        refine g_aload_n hX d_W_law_447 rfl 0 rfl ?_
        refine g_iload hX d_W_law_448 4 rfl ?_
        refine g_iconst (v := 1) hX d_W_law_450 (by decide) ?_
        refine g_iadd hX d_W_law_451 ?_
        obtain ⟨q59, h⟩ := h
        refine g_sld hX hs hbl q59 d_W_law_452 ?_
        refine g_aload_n hX d_W_law_453 rfl 0 rfl ?_
        refine g_iload hX d_W_law_454 4 rfl ?_
        refine g_iconst (v := 2) hX d_W_law_456 (by decide) ?_
        refine g_iadd hX d_W_law_457 ?_
        obtain ⟨q60, h⟩ := h
        refine g_sld hX hs hbl q60 d_W_law_458 ?_
        refine g_aload_n hX d_W_law_459 rfl 0 rfl ?_
        refine g_iload hX d_W_law_460 4 rfl ?_
        refine g_iconst (v := 3) hX d_W_law_462 (by decide) ?_
        refine g_iadd hX d_W_law_463 ?_
        obtain ⟨q61, h⟩ := h
        refine g_sld hX hs hbl q61 d_W_law_464 ?_
        refine g_aload_n hX d_W_law_465 rfl 0 rfl ?_
        refine g_iload hX d_W_law_466 4 rfl ?_
        refine g_iconst (v := 4) hX d_W_law_468 (by decide) ?_
        refine g_iadd hX d_W_law_469 ?_
        obtain ⟨q62, h⟩ := h
        refine g_sld hX hs hbl q62 d_W_law_470 ?_
        refine g_aload_n hX d_W_law_471 rfl 0 rfl ?_
        refine g_iload hX d_W_law_472 4 rfl ?_
        refine g_iconst (v := 5) hX d_W_law_474 (by decide) ?_
        refine g_iadd hX d_W_law_475 ?_
        obtain ⟨q63, h⟩ := h
        refine g_sld hX hs hbl q63 d_W_law_476 ?_
        refine g_aload_n hX d_W_law_477 rfl 3 rfl ?_
        refine g_less (k' := 8 * fuel + 7) (n' := 50 * fuel + 44) (by omega) (by omega) ?_
        have z := c_W_rerank (l := l) (D := D) (AC := AC) (lo := lo) (thr := fun _ _ => False) hl h
        rw [h0, h2] at z
        refine g_callS (k := 8 * fuel) (n := 50 * fuel) hX z hdT_W_rerank hdO_W_rerank t_0 t_494 t_495 ⟨⟨by decide, by decide⟩, np_W_rerank⟩ ⟨Nat.le_of_ble_eq_true rfl, Nat.le_of_ble_eq_true rfl⟩ (Nat.le_of_ble_eq_true rfl) d_W_law_478 rfl ?_ (fun _ _ z => by obtain ⟨_, _, zz⟩ := z; exact zz.elim)
        rintro _ _ ⟨v64, Γ66, σ65, rfl, rfl, hA, h⟩
        have h0 := (hA 0 (by decide)).trans h0
        have h1 := (hA 324 (by decide)).trans h1
        have h2 := (hA 343 (by decide)).trans h2
        refine g_istore hX d_W_law_481 (by decide) rfl ?_
        refine g_aload_n hX d_W_law_483 rfl 3 rfl ?_
        refine g_aload_n hX d_W_law_484 rfl 1 rfl ?_
        refine g_iload hX d_W_law_485 5 rfl ?_
        refine g_iconst (v := 1) hX d_W_law_487 (by decide) ?_
        refine g_iadd hX d_W_law_488 ?_
        obtain ⟨q67, h⟩ := h
        refine g_sld hX hs hbl q67 d_W_law_489 ?_
        refine g_aload_n hX d_W_law_490 rfl 1 rfl ?_
        refine g_iload hX d_W_law_491 5 rfl ?_
        refine g_iconst (v := 2) hX d_W_law_493 (by decide) ?_
        refine g_iadd hX d_W_law_494 ?_
        obtain ⟨q68, h⟩ := h
        refine g_sld hX hs hbl q68 d_W_law_495 ?_
        refine g_aload_n hX d_W_law_496 rfl 1 rfl ?_
        refine g_iload hX d_W_law_497 5 rfl ?_
        refine g_iconst (v := 3) hX d_W_law_499 (by decide) ?_
        refine g_iadd hX d_W_law_500 ?_
        obtain ⟨q69, h⟩ := h
        refine g_sld hX hs hbl q69 d_W_law_501 ?_
        refine g_aload_n hX d_W_law_502 rfl 1 rfl ?_
        refine g_iload hX d_W_law_503 5 rfl ?_
        refine g_iconst (v := 4) hX d_W_law_505 (by decide) ?_
        refine g_iadd hX d_W_law_506 ?_
        obtain ⟨q70, h⟩ := h
        refine g_sld hX hs hbl q70 d_W_law_507 ?_
        refine g_aload_n hX d_W_law_508 rfl 1 rfl ?_
        refine g_iload hX d_W_law_509 5 rfl ?_
        refine g_iconst (v := 5) hX d_W_law_511 (by decide) ?_
        refine g_iadd hX d_W_law_512 ?_
        obtain ⟨q71, h⟩ := h
        refine g_sld hX hs hbl q71 d_W_law_513 ?_
        have z := c_M_rerank (l := l) (D := D) (AC := AC) (lo := lo) (thr := fun _ _ => False) h
        rw [h1] at z
        refine g_callV (i := 324) (k := 8 * fuel) (n := 50 * fuel) hX z hdT_M_rerank hdO_M_rerank t_3 t_901 t_902 t_903 (lt_c (by decide)) h1 (lay_MO (AC := AC) (Γ := Γ66)) rfl ⟨⟨by decide, by decide⟩, np_M_rerank⟩ ⟨Nat.le_of_ble_eq_true rfl, Nat.le_of_ble_eq_true rfl⟩ (Nat.le_of_ble_eq_true rfl) d_W_law_514 rfl ?_ (fun _ _ z => by obtain ⟨_, _, zz⟩ := z; exact zz.elim)
        rintro _ _ ⟨v72, σ73, rfl, rfl, h⟩
        refine g_istore hX d_W_law_517 (by decide) rfl ?_
        refine g_aload_n hX d_W_law_519 rfl 4 rfl ?_
        have z := c_M_thrown (l := l) (D := D) (AC := AC) (lo := lo) (thr := fun _ _ => False) h
        rw [h1] at z
        refine g_callV (i := 324) (k := 8 * fuel) (n := 50 * fuel) hX z hdT_M_thrown hdO_M_thrown t_3 t_870 t_871 t_872 (lt_c (by decide)) h1 (lay_MO (AC := AC) (Γ := Γ66)) rfl ⟨⟨by decide, by decide⟩, np_M_thrown⟩ ⟨Nat.le_of_ble_eq_true rfl, Nat.le_of_ble_eq_true rfl⟩ (Nat.le_of_ble_eq_true rfl) d_W_law_520 rfl ?_ (fun _ _ z => by obtain ⟨_, _, zz⟩ := z; exact zz.elim)
        rintro _ _ ⟨v74, σ75, rfl, rfl, h⟩
        refine g_iload hX d_W_law_523 1 rfl ?_
        refine g_icmp_eq (tgt := 530) hX d_W_law_525 (by decide) (fun q76 => ?_) (fun q76 => ?_)
        · have h := h.1 q76
          refine g_iload hX d_W_law_530 1 rfl ?_
          refine g_if_ne (tgt := 547) hX d_W_law_532 (by decide) (fun q77 => ?_) (fun q77 => ?_)
          · have h := h.1 q77
            refine g_goto (tgt := 1592) hX d_W_law_547 (by decide) ?_
            refine g_iinc (v := i + 7) hX d_W_law_1592 6 rfl (congrArg (i + ·) (by decide)) (by decide) rfl ?_
            refine g_goto (tgt := 23) hX d_W_law_1595 (by decide) ?_
            refine g_sub [3, 4, 5, 6, 0] rfl ?_
            refine g_less (k' := 8 * fuel) (n' := 50 * fuel) (by omega) (by omega) ?_
            exact ih Γ66 ((i + 7)) (σ75) h0 h1 h2 h
          · have h := h.2 q77
            refine g_aload_n hX d_W_law_535 rfl 5 rfl ?_
            refine g_iconst (v := 0) hX d_W_law_536 (by decide) ?_
            refine g_lald (i := 343) hX (lt_c (by decide)) h2 (lay_m18 (AC := AC) (Γ := Γ66)) (by unfold vp_in; decide) d_W_law_537 ?_
            refine g_iload hX d_W_law_538 0 rfl ?_
            refine g_i2l hX d_W_law_540 ?_
            refine g_lcmp hX d_W_law_541 ?_
            refine g_if_eq (tgt := 547) hX d_W_law_542 (by decide) (fun q78 => ?_) (fun q78 => ?_)
            · have h := h.1 q78
              refine g_goto (tgt := 1592) hX d_W_law_547 (by decide) ?_
              refine g_iinc (v := i + 7) hX d_W_law_1592 6 rfl (congrArg (i + ·) (by decide)) (by decide) rfl ?_
              refine g_goto (tgt := 23) hX d_W_law_1595 (by decide) ?_
              refine g_sub [3, 4, 5, 6, 0] rfl ?_
              refine g_less (k' := 8 * fuel) (n' := 50 * fuel) (by omega) (by omega) ?_
              exact ih Γ66 ((i + 7)) (σ75) h0 h1 h2 h
            · have h := h.2 q78
              refine g_iconst (v := 0) hX d_W_law_545 (by decide) ?_
              exact h.elim
        · have h := h.2 q76
          refine g_iconst (v := 0) hX d_W_law_528 (by decide) ?_
          exact h.elim
      · have h := h.2.2.2.2.2.1 hx
        refine g_tableIn (tgt := 550) hX d_W_law_40 (by rw [hx]; decide) (by rw [hx]; decide) (by rw [hx]; rfl) (by decide) ?_
        refine g_aload_n hX d_W_law_550 rfl 1 rfl ?_
        refine g_aload_n hX d_W_law_551 rfl 0 rfl ?_
        refine g_iload hX d_W_law_552 4 rfl ?_
        refine g_iconst (v := 1) hX d_W_law_554 (by decide) ?_
        refine g_iadd hX d_W_law_555 ?_
        obtain ⟨q79, h⟩ := h
        refine g_sld hX hs hbl q79 d_W_law_556 ?_
        refine g_aload_n hX d_W_law_557 rfl 0 rfl ?_
        refine g_iload hX d_W_law_558 4 rfl ?_
        refine g_iconst (v := 2) hX d_W_law_560 (by decide) ?_
        refine g_iadd hX d_W_law_561 ?_
        obtain ⟨q80, h⟩ := h
        refine g_sld hX hs hbl q80 d_W_law_562 ?_
        refine g_aload_n hX d_W_law_563 rfl 0 rfl ?_
        refine g_iload hX d_W_law_564 4 rfl ?_
        refine g_iconst (v := 3) hX d_W_law_566 (by decide) ?_
        refine g_iadd hX d_W_law_567 ?_
        obtain ⟨q81, h⟩ := h
        refine g_sld hX hs hbl q81 d_W_law_568 ?_
        refine g_aload_n hX d_W_law_569 rfl 3 rfl ?_
        refine g_less (k' := 8 * fuel + 5) (n' := 50 * fuel + 30) (by omega) (by omega) ?_
        have z := c_W_release (l := l) (D := D) (AC := AC) (lo := lo) (thr := fun _ _ => False) hl h
        rw [h0, h2] at z
        refine g_callS (k := 8 * fuel) (n := 50 * fuel) hX z hdT_W_release hdO_W_release t_0 t_527 t_528 ⟨⟨by decide, by decide⟩, np_W_release⟩ ⟨Nat.le_of_ble_eq_true rfl, Nat.le_of_ble_eq_true rfl⟩ (Nat.le_of_ble_eq_true rfl) d_W_law_570 rfl ?_ (fun _ _ z => by obtain ⟨_, _, zz⟩ := z; exact zz.elim)
        rintro _ _ ⟨v82, Γ84, σ83, rfl, rfl, hA, h⟩
        have h0 := (hA 0 (by decide)).trans h0
        have h1 := (hA 324 (by decide)).trans h1
        have h2 := (hA 343 (by decide)).trans h2
        refine g_istore hX d_W_law_573 (by decide) rfl ?_
        refine g_aload_n hX d_W_law_575 rfl 3 rfl ?_
        refine g_aload_n hX d_W_law_576 rfl 1 rfl ?_
        refine g_iload hX d_W_law_577 5 rfl ?_
        refine g_iconst (v := 1) hX d_W_law_579 (by decide) ?_
        refine g_iadd hX d_W_law_580 ?_
        obtain ⟨q85, h⟩ := h
        refine g_sld hX hs hbl q85 d_W_law_581 ?_
        refine g_aload_n hX d_W_law_582 rfl 1 rfl ?_
        refine g_iload hX d_W_law_583 5 rfl ?_
        refine g_iconst (v := 2) hX d_W_law_585 (by decide) ?_
        refine g_iadd hX d_W_law_586 ?_
        obtain ⟨q86, h⟩ := h
        refine g_sld hX hs hbl q86 d_W_law_587 ?_
        refine g_aload_n hX d_W_law_588 rfl 1 rfl ?_
        refine g_iload hX d_W_law_589 5 rfl ?_
        refine g_iconst (v := 3) hX d_W_law_591 (by decide) ?_
        refine g_iadd hX d_W_law_592 ?_
        obtain ⟨q87, h⟩ := h
        refine g_sld hX hs hbl q87 d_W_law_593 ?_
        have z := c_M_release (l := l) (D := D) (AC := AC) (lo := lo) (thr := fun _ _ => False) h
        rw [h1] at z
        refine g_callV (i := 324) (k := 8 * fuel) (n := 50 * fuel) hX z hdT_M_release hdO_M_release t_3 t_905 t_906 t_907 (lt_c (by decide)) h1 (lay_MO (AC := AC) (Γ := Γ84)) rfl ⟨⟨by decide, by decide⟩, np_M_release⟩ ⟨Nat.le_of_ble_eq_true rfl, Nat.le_of_ble_eq_true rfl⟩ (Nat.le_of_ble_eq_true rfl) d_W_law_594 rfl ?_ (fun _ _ z => by obtain ⟨_, _, zz⟩ := z; exact zz.elim)
        rintro _ _ ⟨v88, σ89, rfl, rfl, h⟩
        refine g_istore hX d_W_law_597 (by decide) rfl ?_
        refine g_aload_n hX d_W_law_599 rfl 4 rfl ?_
        have z := c_M_thrown (l := l) (D := D) (AC := AC) (lo := lo) (thr := fun _ _ => False) h
        rw [h1] at z
        refine g_callV (i := 324) (k := 8 * fuel) (n := 50 * fuel) hX z hdT_M_thrown hdO_M_thrown t_3 t_870 t_871 t_872 (lt_c (by decide)) h1 (lay_MO (AC := AC) (Γ := Γ84)) rfl ⟨⟨by decide, by decide⟩, np_M_thrown⟩ ⟨Nat.le_of_ble_eq_true rfl, Nat.le_of_ble_eq_true rfl⟩ (Nat.le_of_ble_eq_true rfl) d_W_law_600 rfl ?_ (fun _ _ z => by obtain ⟨_, _, zz⟩ := z; exact zz.elim)
        rintro _ _ ⟨v90, σ91, rfl, rfl, h⟩
        refine g_iload hX d_W_law_603 1 rfl ?_
        refine g_icmp_eq (tgt := 610) hX d_W_law_605 (by decide) (fun q92 => ?_) (fun q92 => ?_)
        · have h := h.1 q92
          refine g_iload hX d_W_law_610 1 rfl ?_
          refine g_if_ne (tgt := 627) hX d_W_law_612 (by decide) (fun q93 => ?_) (fun q93 => ?_)
          · have h := h.1 q93
            refine g_goto (tgt := 1592) hX d_W_law_627 (by decide) ?_
            refine g_iinc (v := i + 7) hX d_W_law_1592 6 rfl (congrArg (i + ·) (by decide)) (by decide) rfl ?_
            refine g_goto (tgt := 23) hX d_W_law_1595 (by decide) ?_
            refine g_sub [3, 4, 5, 6, 0] rfl ?_
            refine g_less (k' := 8 * fuel) (n' := 50 * fuel) (by omega) (by omega) ?_
            exact ih Γ84 ((i + 7)) (σ91) h0 h1 h2 h
          · have h := h.2 q93
            refine g_aload_n hX d_W_law_615 rfl 5 rfl ?_
            refine g_iconst (v := 0) hX d_W_law_616 (by decide) ?_
            refine g_lald (i := 343) hX (lt_c (by decide)) h2 (lay_m18 (AC := AC) (Γ := Γ84)) (by unfold vp_in; decide) d_W_law_617 ?_
            refine g_iload hX d_W_law_618 0 rfl ?_
            refine g_i2l hX d_W_law_620 ?_
            refine g_lcmp hX d_W_law_621 ?_
            refine g_if_eq (tgt := 627) hX d_W_law_622 (by decide) (fun q94 => ?_) (fun q94 => ?_)
            · have h := h.1 q94
              refine g_goto (tgt := 1592) hX d_W_law_627 (by decide) ?_
              refine g_iinc (v := i + 7) hX d_W_law_1592 6 rfl (congrArg (i + ·) (by decide)) (by decide) rfl ?_
              refine g_goto (tgt := 23) hX d_W_law_1595 (by decide) ?_
              refine g_sub [3, 4, 5, 6, 0] rfl ?_
              refine g_less (k' := 8 * fuel) (n' := 50 * fuel) (by omega) (by omega) ?_
              exact ih Γ84 ((i + 7)) (σ91) h0 h1 h2 h
            · have h := h.2 q94
              refine g_iconst (v := 0) hX d_W_law_625 (by decide) ?_
              exact h.elim
        · have h := h.2 q92
          refine g_iconst (v := 0) hX d_W_law_608 (by decide) ?_
          exact h.elim
      · have h := h.2.2.2.2.2.2.1 hx
        refine g_tableIn (tgt := 630) hX d_W_law_40 (by rw [hx]; decide) (by rw [hx]; decide) (by rw [hx]; rfl) (by decide) ?_
        refine g_aload_n hX d_W_law_630 rfl 1 rfl ?_
        refine g_aload_n hX d_W_law_631 rfl 0 rfl ?_
        refine g_iload hX d_W_law_632 4 rfl ?_
        refine g_iconst (v := 1) hX d_W_law_634 (by decide) ?_
        refine g_iadd hX d_W_law_635 ?_
        obtain ⟨q95, h⟩ := h
        refine g_sld hX hs hbl q95 d_W_law_636 ?_
        refine g_aload_n hX d_W_law_637 rfl 0 rfl ?_
        refine g_iload hX d_W_law_638 4 rfl ?_
        refine g_iconst (v := 2) hX d_W_law_640 (by decide) ?_
        refine g_iadd hX d_W_law_641 ?_
        obtain ⟨q96, h⟩ := h
        refine g_sld hX hs hbl q96 d_W_law_642 ?_
        refine g_aload_n hX d_W_law_643 rfl 0 rfl ?_
        refine g_iload hX d_W_law_644 4 rfl ?_
        refine g_iconst (v := 3) hX d_W_law_646 (by decide) ?_
        refine g_iadd hX d_W_law_647 ?_
        obtain ⟨q97, h⟩ := h
        refine g_sld hX hs hbl q97 d_W_law_648 ?_
        refine g_aload_n hX d_W_law_649 rfl 3 rfl ?_
        refine g_less (k' := 8 * fuel + 5) (n' := 50 * fuel + 30) (by omega) (by omega) ?_
        have z := c_W_caution (l := l) (D := D) (AC := AC) (lo := lo) (thr := fun _ _ => False) hl h
        rw [h0, h2] at z
        refine g_callS (k := 8 * fuel) (n := 50 * fuel) hX z hdT_W_caution hdO_W_caution t_0 t_551 t_552 ⟨⟨by decide, by decide⟩, np_W_caution⟩ ⟨Nat.le_of_ble_eq_true rfl, Nat.le_of_ble_eq_true rfl⟩ (Nat.le_of_ble_eq_true rfl) d_W_law_650 rfl ?_ (fun _ _ z => by obtain ⟨_, _, zz⟩ := z; exact zz.elim)
        rintro _ _ ⟨v98, Γ100, σ99, rfl, rfl, hA, h⟩
        have h0 := (hA 0 (by decide)).trans h0
        have h1 := (hA 324 (by decide)).trans h1
        have h2 := (hA 343 (by decide)).trans h2
        refine g_istore hX d_W_law_653 (by decide) rfl ?_
        refine g_aload_n hX d_W_law_655 rfl 3 rfl ?_
        refine g_aload_n hX d_W_law_656 rfl 1 rfl ?_
        refine g_iload hX d_W_law_657 5 rfl ?_
        refine g_iconst (v := 1) hX d_W_law_659 (by decide) ?_
        refine g_iadd hX d_W_law_660 ?_
        obtain ⟨q101, h⟩ := h
        refine g_sld hX hs hbl q101 d_W_law_661 ?_
        refine g_aload_n hX d_W_law_662 rfl 1 rfl ?_
        refine g_iload hX d_W_law_663 5 rfl ?_
        refine g_iconst (v := 2) hX d_W_law_665 (by decide) ?_
        refine g_iadd hX d_W_law_666 ?_
        obtain ⟨q102, h⟩ := h
        refine g_sld hX hs hbl q102 d_W_law_667 ?_
        refine g_aload_n hX d_W_law_668 rfl 1 rfl ?_
        refine g_iload hX d_W_law_669 5 rfl ?_
        refine g_iconst (v := 3) hX d_W_law_671 (by decide) ?_
        refine g_iadd hX d_W_law_672 ?_
        obtain ⟨q103, h⟩ := h
        refine g_sld hX hs hbl q103 d_W_law_673 ?_
        have z := c_M_caution (l := l) (D := D) (AC := AC) (lo := lo) (thr := fun _ _ => False) h
        rw [h1] at z
        refine g_callV (i := 324) (k := 8 * fuel) (n := 50 * fuel) hX z hdT_M_caution hdO_M_caution t_3 t_909 t_910 t_911 (lt_c (by decide)) h1 (lay_MO (AC := AC) (Γ := Γ100)) rfl ⟨⟨by decide, by decide⟩, np_M_caution⟩ ⟨Nat.le_of_ble_eq_true rfl, Nat.le_of_ble_eq_true rfl⟩ (Nat.le_of_ble_eq_true rfl) d_W_law_674 rfl ?_ (fun _ _ z => by obtain ⟨_, _, zz⟩ := z; exact zz.elim)
        rintro _ _ ⟨v104, σ105, rfl, rfl, h⟩
        refine g_istore hX d_W_law_677 (by decide) rfl ?_
        refine g_aload_n hX d_W_law_679 rfl 4 rfl ?_
        have z := c_M_thrown (l := l) (D := D) (AC := AC) (lo := lo) (thr := fun _ _ => False) h
        rw [h1] at z
        refine g_callV (i := 324) (k := 8 * fuel) (n := 50 * fuel) hX z hdT_M_thrown hdO_M_thrown t_3 t_870 t_871 t_872 (lt_c (by decide)) h1 (lay_MO (AC := AC) (Γ := Γ100)) rfl ⟨⟨by decide, by decide⟩, np_M_thrown⟩ ⟨Nat.le_of_ble_eq_true rfl, Nat.le_of_ble_eq_true rfl⟩ (Nat.le_of_ble_eq_true rfl) d_W_law_680 rfl ?_ (fun _ _ z => by obtain ⟨_, _, zz⟩ := z; exact zz.elim)
        rintro _ _ ⟨v106, σ107, rfl, rfl, h⟩
        refine g_iload hX d_W_law_683 1 rfl ?_
        refine g_icmp_eq (tgt := 690) hX d_W_law_685 (by decide) (fun q108 => ?_) (fun q108 => ?_)
        · have h := h.1 q108
          refine g_iload hX d_W_law_690 1 rfl ?_
          refine g_if_ne (tgt := 707) hX d_W_law_692 (by decide) (fun q109 => ?_) (fun q109 => ?_)
          · have h := h.1 q109
            refine g_goto (tgt := 1592) hX d_W_law_707 (by decide) ?_
            refine g_iinc (v := i + 7) hX d_W_law_1592 6 rfl (congrArg (i + ·) (by decide)) (by decide) rfl ?_
            refine g_goto (tgt := 23) hX d_W_law_1595 (by decide) ?_
            refine g_sub [3, 4, 5, 6, 0] rfl ?_
            refine g_less (k' := 8 * fuel) (n' := 50 * fuel) (by omega) (by omega) ?_
            exact ih Γ100 ((i + 7)) (σ107) h0 h1 h2 h
          · have h := h.2 q109
            refine g_aload_n hX d_W_law_695 rfl 5 rfl ?_
            refine g_iconst (v := 0) hX d_W_law_696 (by decide) ?_
            refine g_lald (i := 343) hX (lt_c (by decide)) h2 (lay_m18 (AC := AC) (Γ := Γ100)) (by unfold vp_in; decide) d_W_law_697 ?_
            refine g_iload hX d_W_law_698 0 rfl ?_
            refine g_i2l hX d_W_law_700 ?_
            refine g_lcmp hX d_W_law_701 ?_
            refine g_if_eq (tgt := 707) hX d_W_law_702 (by decide) (fun q110 => ?_) (fun q110 => ?_)
            · have h := h.1 q110
              refine g_goto (tgt := 1592) hX d_W_law_707 (by decide) ?_
              refine g_iinc (v := i + 7) hX d_W_law_1592 6 rfl (congrArg (i + ·) (by decide)) (by decide) rfl ?_
              refine g_goto (tgt := 23) hX d_W_law_1595 (by decide) ?_
              refine g_sub [3, 4, 5, 6, 0] rfl ?_
              refine g_less (k' := 8 * fuel) (n' := 50 * fuel) (by omega) (by omega) ?_
              exact ih Γ100 ((i + 7)) (σ107) h0 h1 h2 h
            · have h := h.2 q110
              refine g_iconst (v := 0) hX d_W_law_705 (by decide) ?_
              exact h.elim
        · have h := h.2 q108
          refine g_iconst (v := 0) hX d_W_law_688 (by decide) ?_
          exact h.elim
      · have h := h.2.2.2.2.2.2.2.1 hx
        refine g_tableIn (tgt := 710) hX d_W_law_40 (by rw [hx]; decide) (by rw [hx]; decide) (by rw [hx]; rfl) (by decide) ?_
        refine g_aload_n hX d_W_law_710 rfl 1 rfl ?_
        refine g_aload_n hX d_W_law_711 rfl 0 rfl ?_
        refine g_iload hX d_W_law_712 4 rfl ?_
        refine g_iconst (v := 1) hX d_W_law_714 (by decide) ?_
        refine g_iadd hX d_W_law_715 ?_
        obtain ⟨q111, h⟩ := h
        refine g_sld hX hs hbl q111 d_W_law_716 ?_
        refine g_aload_n hX d_W_law_717 rfl 0 rfl ?_
        refine g_iload hX d_W_law_718 4 rfl ?_
        refine g_iconst (v := 2) hX d_W_law_720 (by decide) ?_
        refine g_iadd hX d_W_law_721 ?_
        obtain ⟨q112, h⟩ := h
        refine g_sld hX hs hbl q112 d_W_law_722 ?_
        refine g_aload_n hX d_W_law_723 rfl 0 rfl ?_
        refine g_iload hX d_W_law_724 4 rfl ?_
        refine g_iconst (v := 3) hX d_W_law_726 (by decide) ?_
        refine g_iadd hX d_W_law_727 ?_
        obtain ⟨q113, h⟩ := h
        refine g_sld hX hs hbl q113 d_W_law_728 ?_
        refine g_aload_n hX d_W_law_729 rfl 3 rfl ?_
        refine g_less (k' := 8 * fuel + 5) (n' := 50 * fuel + 30) (by omega) (by omega) ?_
        have z := c_W_lift (l := l) (D := D) (AC := AC) (lo := lo) (thr := fun _ _ => False) hl h
        rw [h0, h2] at z
        refine g_callS (k := 8 * fuel) (n := 50 * fuel) hX z hdT_W_lift hdO_W_lift t_0 t_575 t_576 ⟨⟨by decide, by decide⟩, np_W_lift⟩ ⟨Nat.le_of_ble_eq_true rfl, Nat.le_of_ble_eq_true rfl⟩ (Nat.le_of_ble_eq_true rfl) d_W_law_730 rfl ?_ (fun _ _ z => by obtain ⟨_, _, zz⟩ := z; exact zz.elim)
        rintro _ _ ⟨v114, Γ116, σ115, rfl, rfl, hA, h⟩
        have h0 := (hA 0 (by decide)).trans h0
        have h1 := (hA 324 (by decide)).trans h1
        have h2 := (hA 343 (by decide)).trans h2
        refine g_istore hX d_W_law_733 (by decide) rfl ?_
        refine g_aload_n hX d_W_law_735 rfl 3 rfl ?_
        refine g_aload_n hX d_W_law_736 rfl 1 rfl ?_
        refine g_iload hX d_W_law_737 5 rfl ?_
        refine g_iconst (v := 1) hX d_W_law_739 (by decide) ?_
        refine g_iadd hX d_W_law_740 ?_
        obtain ⟨q117, h⟩ := h
        refine g_sld hX hs hbl q117 d_W_law_741 ?_
        refine g_aload_n hX d_W_law_742 rfl 1 rfl ?_
        refine g_iload hX d_W_law_743 5 rfl ?_
        refine g_iconst (v := 2) hX d_W_law_745 (by decide) ?_
        refine g_iadd hX d_W_law_746 ?_
        obtain ⟨q118, h⟩ := h
        refine g_sld hX hs hbl q118 d_W_law_747 ?_
        refine g_aload_n hX d_W_law_748 rfl 1 rfl ?_
        refine g_iload hX d_W_law_749 5 rfl ?_
        refine g_iconst (v := 3) hX d_W_law_751 (by decide) ?_
        refine g_iadd hX d_W_law_752 ?_
        obtain ⟨q119, h⟩ := h
        refine g_sld hX hs hbl q119 d_W_law_753 ?_
        have z := c_M_lift (l := l) (D := D) (AC := AC) (lo := lo) (thr := fun _ _ => False) h
        rw [h1] at z
        refine g_callV (i := 324) (k := 8 * fuel) (n := 50 * fuel) hX z hdT_M_lift hdO_M_lift t_3 t_913 t_914 t_915 (lt_c (by decide)) h1 (lay_MO (AC := AC) (Γ := Γ116)) rfl ⟨⟨by decide, by decide⟩, np_M_lift⟩ ⟨Nat.le_of_ble_eq_true rfl, Nat.le_of_ble_eq_true rfl⟩ (Nat.le_of_ble_eq_true rfl) d_W_law_754 rfl ?_ (fun _ _ z => by obtain ⟨_, _, zz⟩ := z; exact zz.elim)
        rintro _ _ ⟨v120, σ121, rfl, rfl, h⟩
        refine g_istore hX d_W_law_757 (by decide) rfl ?_
        refine g_aload_n hX d_W_law_759 rfl 4 rfl ?_
        have z := c_M_thrown (l := l) (D := D) (AC := AC) (lo := lo) (thr := fun _ _ => False) h
        rw [h1] at z
        refine g_callV (i := 324) (k := 8 * fuel) (n := 50 * fuel) hX z hdT_M_thrown hdO_M_thrown t_3 t_870 t_871 t_872 (lt_c (by decide)) h1 (lay_MO (AC := AC) (Γ := Γ116)) rfl ⟨⟨by decide, by decide⟩, np_M_thrown⟩ ⟨Nat.le_of_ble_eq_true rfl, Nat.le_of_ble_eq_true rfl⟩ (Nat.le_of_ble_eq_true rfl) d_W_law_760 rfl ?_ (fun _ _ z => by obtain ⟨_, _, zz⟩ := z; exact zz.elim)
        rintro _ _ ⟨v122, σ123, rfl, rfl, h⟩
        refine g_iload hX d_W_law_763 1 rfl ?_
        refine g_icmp_eq (tgt := 770) hX d_W_law_765 (by decide) (fun q124 => ?_) (fun q124 => ?_)
        · have h := h.1 q124
          refine g_iload hX d_W_law_770 1 rfl ?_
          refine g_if_ne (tgt := 787) hX d_W_law_772 (by decide) (fun q125 => ?_) (fun q125 => ?_)
          · have h := h.1 q125
            refine g_goto (tgt := 1592) hX d_W_law_787 (by decide) ?_
            refine g_iinc (v := i + 7) hX d_W_law_1592 6 rfl (congrArg (i + ·) (by decide)) (by decide) rfl ?_
            refine g_goto (tgt := 23) hX d_W_law_1595 (by decide) ?_
            refine g_sub [3, 4, 5, 6, 0] rfl ?_
            refine g_less (k' := 8 * fuel) (n' := 50 * fuel) (by omega) (by omega) ?_
            exact ih Γ116 ((i + 7)) (σ123) h0 h1 h2 h
          · have h := h.2 q125
            refine g_aload_n hX d_W_law_775 rfl 5 rfl ?_
            refine g_iconst (v := 0) hX d_W_law_776 (by decide) ?_
            refine g_lald (i := 343) hX (lt_c (by decide)) h2 (lay_m18 (AC := AC) (Γ := Γ116)) (by unfold vp_in; decide) d_W_law_777 ?_
            refine g_iload hX d_W_law_778 0 rfl ?_
            refine g_i2l hX d_W_law_780 ?_
            refine g_lcmp hX d_W_law_781 ?_
            refine g_if_eq (tgt := 787) hX d_W_law_782 (by decide) (fun q126 => ?_) (fun q126 => ?_)
            · have h := h.1 q126
              refine g_goto (tgt := 1592) hX d_W_law_787 (by decide) ?_
              refine g_iinc (v := i + 7) hX d_W_law_1592 6 rfl (congrArg (i + ·) (by decide)) (by decide) rfl ?_
              refine g_goto (tgt := 23) hX d_W_law_1595 (by decide) ?_
              refine g_sub [3, 4, 5, 6, 0] rfl ?_
              refine g_less (k' := 8 * fuel) (n' := 50 * fuel) (by omega) (by omega) ?_
              exact ih Γ116 ((i + 7)) (σ123) h0 h1 h2 h
            · have h := h.2 q126
              refine g_iconst (v := 0) hX d_W_law_785 (by decide) ?_
              exact h.elim
        · have h := h.2 q124
          refine g_iconst (v := 0) hX d_W_law_768 (by decide) ?_
          exact h.elim
      · have h := h.2.2.2.2.2.2.2.2.1 hx
        refine g_tableIn (tgt := 790) hX d_W_law_40 (by rw [hx]; decide) (by rw [hx]; decide) (by rw [hx]; rfl) (by decide) ?_
        refine g_aload_n hX d_W_law_790 rfl 1 rfl ?_
        refine g_aload_n hX d_W_law_791 rfl 0 rfl ?_
        refine g_iload hX d_W_law_792 4 rfl ?_
        refine g_iconst (v := 1) hX d_W_law_794 (by decide) ?_
        refine g_iadd hX d_W_law_795 ?_
        obtain ⟨q127, h⟩ := h
        refine g_sld hX hs hbl q127 d_W_law_796 ?_
        refine g_aload_n hX d_W_law_797 rfl 0 rfl ?_
        refine g_iload hX d_W_law_798 4 rfl ?_
        refine g_iconst (v := 2) hX d_W_law_800 (by decide) ?_
        refine g_iadd hX d_W_law_801 ?_
        obtain ⟨q128, h⟩ := h
        refine g_sld hX hs hbl q128 d_W_law_802 ?_
        refine g_aload_n hX d_W_law_803 rfl 0 rfl ?_
        refine g_iload hX d_W_law_804 4 rfl ?_
        refine g_iconst (v := 3) hX d_W_law_806 (by decide) ?_
        refine g_iadd hX d_W_law_807 ?_
        obtain ⟨q129, h⟩ := h
        refine g_sld hX hs hbl q129 d_W_law_808 ?_
        refine g_aload_n hX d_W_law_809 rfl 3 rfl ?_
        refine g_less (k' := 8 * fuel + 5) (n' := 50 * fuel + 30) (by omega) (by omega) ?_
        have z := c_W_split (l := l) (D := D) (AC := AC) (lo := lo) (thr := fun _ _ => False) hl h
        rw [h0, h2] at z
        refine g_callS (k := 8 * fuel) (n := 50 * fuel) hX z hdT_W_split hdO_W_split t_0 t_599 t_600 ⟨⟨by decide, by decide⟩, np_W_split⟩ ⟨Nat.le_of_ble_eq_true rfl, Nat.le_of_ble_eq_true rfl⟩ (Nat.le_of_ble_eq_true rfl) d_W_law_810 rfl ?_ (fun _ _ z => by obtain ⟨_, _, zz⟩ := z; exact zz.elim)
        rintro _ _ ⟨v130, Γ132, σ131, rfl, rfl, hA, h⟩
        have h0 := (hA 0 (by decide)).trans h0
        have h1 := (hA 324 (by decide)).trans h1
        have h2 := (hA 343 (by decide)).trans h2
        refine g_istore hX d_W_law_813 (by decide) rfl ?_
        refine g_aload_n hX d_W_law_815 rfl 3 rfl ?_
        refine g_aload_n hX d_W_law_816 rfl 1 rfl ?_
        refine g_iload hX d_W_law_817 5 rfl ?_
        refine g_iconst (v := 1) hX d_W_law_819 (by decide) ?_
        refine g_iadd hX d_W_law_820 ?_
        obtain ⟨q133, h⟩ := h
        refine g_sld hX hs hbl q133 d_W_law_821 ?_
        refine g_aload_n hX d_W_law_822 rfl 1 rfl ?_
        refine g_iload hX d_W_law_823 5 rfl ?_
        refine g_iconst (v := 2) hX d_W_law_825 (by decide) ?_
        refine g_iadd hX d_W_law_826 ?_
        obtain ⟨q134, h⟩ := h
        refine g_sld hX hs hbl q134 d_W_law_827 ?_
        refine g_aload_n hX d_W_law_828 rfl 1 rfl ?_
        refine g_iload hX d_W_law_829 5 rfl ?_
        refine g_iconst (v := 3) hX d_W_law_831 (by decide) ?_
        refine g_iadd hX d_W_law_832 ?_
        obtain ⟨q135, h⟩ := h
        refine g_sld hX hs hbl q135 d_W_law_833 ?_
        have z := c_M_split (l := l) (D := D) (AC := AC) (lo := lo) (thr := fun _ _ => False) h
        rw [h1] at z
        refine g_callV (i := 324) (k := 8 * fuel) (n := 50 * fuel) hX z hdT_M_split hdO_M_split t_3 t_917 t_918 t_919 (lt_c (by decide)) h1 (lay_MO (AC := AC) (Γ := Γ132)) rfl ⟨⟨by decide, by decide⟩, np_M_split⟩ ⟨Nat.le_of_ble_eq_true rfl, Nat.le_of_ble_eq_true rfl⟩ (Nat.le_of_ble_eq_true rfl) d_W_law_834 rfl ?_ (fun _ _ z => by obtain ⟨_, _, zz⟩ := z; exact zz.elim)
        rintro _ _ ⟨v136, σ137, rfl, rfl, h⟩
        refine g_istore hX d_W_law_837 (by decide) rfl ?_
        refine g_aload_n hX d_W_law_839 rfl 4 rfl ?_
        have z := c_M_thrown (l := l) (D := D) (AC := AC) (lo := lo) (thr := fun _ _ => False) h
        rw [h1] at z
        refine g_callV (i := 324) (k := 8 * fuel) (n := 50 * fuel) hX z hdT_M_thrown hdO_M_thrown t_3 t_870 t_871 t_872 (lt_c (by decide)) h1 (lay_MO (AC := AC) (Γ := Γ132)) rfl ⟨⟨by decide, by decide⟩, np_M_thrown⟩ ⟨Nat.le_of_ble_eq_true rfl, Nat.le_of_ble_eq_true rfl⟩ (Nat.le_of_ble_eq_true rfl) d_W_law_840 rfl ?_ (fun _ _ z => by obtain ⟨_, _, zz⟩ := z; exact zz.elim)
        rintro _ _ ⟨v138, σ139, rfl, rfl, h⟩
        refine g_iload hX d_W_law_843 1 rfl ?_
        refine g_icmp_eq (tgt := 850) hX d_W_law_845 (by decide) (fun q140 => ?_) (fun q140 => ?_)
        · have h := h.1 q140
          refine g_iload hX d_W_law_850 1 rfl ?_
          refine g_if_ne (tgt := 867) hX d_W_law_852 (by decide) (fun q141 => ?_) (fun q141 => ?_)
          · have h := h.1 q141
            refine g_goto (tgt := 1592) hX d_W_law_867 (by decide) ?_
            refine g_iinc (v := i + 7) hX d_W_law_1592 6 rfl (congrArg (i + ·) (by decide)) (by decide) rfl ?_
            refine g_goto (tgt := 23) hX d_W_law_1595 (by decide) ?_
            refine g_sub [3, 4, 5, 6, 0] rfl ?_
            refine g_less (k' := 8 * fuel) (n' := 50 * fuel) (by omega) (by omega) ?_
            exact ih Γ132 ((i + 7)) (σ139) h0 h1 h2 h
          · have h := h.2 q141
            refine g_aload_n hX d_W_law_855 rfl 5 rfl ?_
            refine g_iconst (v := 0) hX d_W_law_856 (by decide) ?_
            refine g_lald (i := 343) hX (lt_c (by decide)) h2 (lay_m18 (AC := AC) (Γ := Γ132)) (by unfold vp_in; decide) d_W_law_857 ?_
            refine g_iload hX d_W_law_858 0 rfl ?_
            refine g_i2l hX d_W_law_860 ?_
            refine g_lcmp hX d_W_law_861 ?_
            refine g_if_eq (tgt := 867) hX d_W_law_862 (by decide) (fun q142 => ?_) (fun q142 => ?_)
            · have h := h.1 q142
              refine g_goto (tgt := 1592) hX d_W_law_867 (by decide) ?_
              refine g_iinc (v := i + 7) hX d_W_law_1592 6 rfl (congrArg (i + ·) (by decide)) (by decide) rfl ?_
              refine g_goto (tgt := 23) hX d_W_law_1595 (by decide) ?_
              refine g_sub [3, 4, 5, 6, 0] rfl ?_
              refine g_less (k' := 8 * fuel) (n' := 50 * fuel) (by omega) (by omega) ?_
              exact ih Γ132 ((i + 7)) (σ139) h0 h1 h2 h
            · have h := h.2 q142
              refine g_iconst (v := 0) hX d_W_law_865 (by decide) ?_
              exact h.elim
        · have h := h.2 q140
          refine g_iconst (v := 0) hX d_W_law_848 (by decide) ?_
          exact h.elim
      · have h := h.2.2.2.2.2.2.2.2.2.1 hx
        refine g_tableIn (tgt := 870) hX d_W_law_40 (by rw [hx]; decide) (by rw [hx]; decide) (by rw [hx]; rfl) (by decide) ?_
        refine g_aload_n hX d_W_law_870 rfl 1 rfl ?_
        refine g_aload_n hX d_W_law_871 rfl 0 rfl ?_
        refine g_iload hX d_W_law_872 4 rfl ?_
        refine g_iconst (v := 1) hX d_W_law_874 (by decide) ?_
        refine g_iadd hX d_W_law_875 ?_
        obtain ⟨q143, h⟩ := h
        refine g_sld hX hs hbl q143 d_W_law_876 ?_
        refine g_aload_n hX d_W_law_877 rfl 0 rfl ?_
        refine g_iload hX d_W_law_878 4 rfl ?_
        refine g_iconst (v := 2) hX d_W_law_880 (by decide) ?_
        refine g_iadd hX d_W_law_881 ?_
        obtain ⟨q144, h⟩ := h
        refine g_sld hX hs hbl q144 d_W_law_882 ?_
        refine g_aload_n hX d_W_law_883 rfl 0 rfl ?_
        refine g_iload hX d_W_law_884 4 rfl ?_
        refine g_iconst (v := 3) hX d_W_law_886 (by decide) ?_
        refine g_iadd hX d_W_law_887 ?_
        obtain ⟨q145, h⟩ := h
        refine g_sld hX hs hbl q145 d_W_law_888 ?_
        refine g_aload_n hX d_W_law_889 rfl 3 rfl ?_
        refine g_less (k' := 8 * fuel + 6) (n' := 50 * fuel + 36) (by omega) (by omega) ?_
        have z := c_W_merge (l := l) (D := D) (AC := AC) (lo := lo) (thr := fun _ _ => False) hl h
        rw [h0, h2] at z
        refine g_callS (k := 8 * fuel) (n := 50 * fuel) hX z hdT_W_merge hdO_W_merge t_0 t_623 t_624 ⟨⟨by decide, by decide⟩, np_W_merge⟩ ⟨Nat.le_of_ble_eq_true rfl, Nat.le_of_ble_eq_true rfl⟩ (Nat.le_of_ble_eq_true rfl) d_W_law_890 rfl ?_ (fun _ _ z => by obtain ⟨_, _, zz⟩ := z; exact zz.elim)
        rintro _ _ ⟨v146, Γ148, σ147, rfl, rfl, hA, h⟩
        have h0 := (hA 0 (by decide)).trans h0
        have h1 := (hA 324 (by decide)).trans h1
        have h2 := (hA 343 (by decide)).trans h2
        refine g_istore hX d_W_law_893 (by decide) rfl ?_
        refine g_aload_n hX d_W_law_895 rfl 3 rfl ?_
        refine g_aload_n hX d_W_law_896 rfl 1 rfl ?_
        refine g_iload hX d_W_law_897 5 rfl ?_
        refine g_iconst (v := 1) hX d_W_law_899 (by decide) ?_
        refine g_iadd hX d_W_law_900 ?_
        obtain ⟨q149, h⟩ := h
        refine g_sld hX hs hbl q149 d_W_law_901 ?_
        refine g_aload_n hX d_W_law_902 rfl 1 rfl ?_
        refine g_iload hX d_W_law_903 5 rfl ?_
        refine g_iconst (v := 2) hX d_W_law_905 (by decide) ?_
        refine g_iadd hX d_W_law_906 ?_
        obtain ⟨q150, h⟩ := h
        refine g_sld hX hs hbl q150 d_W_law_907 ?_
        refine g_aload_n hX d_W_law_908 rfl 1 rfl ?_
        refine g_iload hX d_W_law_909 5 rfl ?_
        refine g_iconst (v := 3) hX d_W_law_911 (by decide) ?_
        refine g_iadd hX d_W_law_912 ?_
        obtain ⟨q151, h⟩ := h
        refine g_sld hX hs hbl q151 d_W_law_913 ?_
        have z := c_M_merge (l := l) (D := D) (AC := AC) (lo := lo) (thr := fun _ _ => False) h
        rw [h1] at z
        refine g_callV (i := 324) (k := 8 * fuel) (n := 50 * fuel) hX z hdT_M_merge hdO_M_merge t_3 t_921 t_922 t_923 (lt_c (by decide)) h1 (lay_MO (AC := AC) (Γ := Γ148)) rfl ⟨⟨by decide, by decide⟩, np_M_merge⟩ ⟨Nat.le_of_ble_eq_true rfl, Nat.le_of_ble_eq_true rfl⟩ (Nat.le_of_ble_eq_true rfl) d_W_law_914 rfl ?_ (fun _ _ z => by obtain ⟨_, _, zz⟩ := z; exact zz.elim)
        rintro _ _ ⟨v152, σ153, rfl, rfl, h⟩
        refine g_istore hX d_W_law_917 (by decide) rfl ?_
        refine g_aload_n hX d_W_law_919 rfl 4 rfl ?_
        have z := c_M_thrown (l := l) (D := D) (AC := AC) (lo := lo) (thr := fun _ _ => False) h
        rw [h1] at z
        refine g_callV (i := 324) (k := 8 * fuel) (n := 50 * fuel) hX z hdT_M_thrown hdO_M_thrown t_3 t_870 t_871 t_872 (lt_c (by decide)) h1 (lay_MO (AC := AC) (Γ := Γ148)) rfl ⟨⟨by decide, by decide⟩, np_M_thrown⟩ ⟨Nat.le_of_ble_eq_true rfl, Nat.le_of_ble_eq_true rfl⟩ (Nat.le_of_ble_eq_true rfl) d_W_law_920 rfl ?_ (fun _ _ z => by obtain ⟨_, _, zz⟩ := z; exact zz.elim)
        rintro _ _ ⟨v154, σ155, rfl, rfl, h⟩
        refine g_iload hX d_W_law_923 1 rfl ?_
        refine g_icmp_eq (tgt := 930) hX d_W_law_925 (by decide) (fun q156 => ?_) (fun q156 => ?_)
        · have h := h.1 q156
          refine g_iload hX d_W_law_930 1 rfl ?_
          refine g_if_ne (tgt := 947) hX d_W_law_932 (by decide) (fun q157 => ?_) (fun q157 => ?_)
          · have h := h.1 q157
            refine g_goto (tgt := 1592) hX d_W_law_947 (by decide) ?_
            refine g_iinc (v := i + 7) hX d_W_law_1592 6 rfl (congrArg (i + ·) (by decide)) (by decide) rfl ?_
            refine g_goto (tgt := 23) hX d_W_law_1595 (by decide) ?_
            refine g_sub [3, 4, 5, 6, 0] rfl ?_
            refine g_less (k' := 8 * fuel) (n' := 50 * fuel) (by omega) (by omega) ?_
            exact ih Γ148 ((i + 7)) (σ155) h0 h1 h2 h
          · have h := h.2 q157
            refine g_aload_n hX d_W_law_935 rfl 5 rfl ?_
            refine g_iconst (v := 0) hX d_W_law_936 (by decide) ?_
            refine g_lald (i := 343) hX (lt_c (by decide)) h2 (lay_m18 (AC := AC) (Γ := Γ148)) (by unfold vp_in; decide) d_W_law_937 ?_
            refine g_iload hX d_W_law_938 0 rfl ?_
            refine g_i2l hX d_W_law_940 ?_
            refine g_lcmp hX d_W_law_941 ?_
            refine g_if_eq (tgt := 947) hX d_W_law_942 (by decide) (fun q158 => ?_) (fun q158 => ?_)
            · have h := h.1 q158
              refine g_goto (tgt := 1592) hX d_W_law_947 (by decide) ?_
              refine g_iinc (v := i + 7) hX d_W_law_1592 6 rfl (congrArg (i + ·) (by decide)) (by decide) rfl ?_
              refine g_goto (tgt := 23) hX d_W_law_1595 (by decide) ?_
              refine g_sub [3, 4, 5, 6, 0] rfl ?_
              refine g_less (k' := 8 * fuel) (n' := 50 * fuel) (by omega) (by omega) ?_
              exact ih Γ148 ((i + 7)) (σ155) h0 h1 h2 h
            · have h := h.2 q158
              refine g_iconst (v := 0) hX d_W_law_945 (by decide) ?_
              exact h.elim
        · have h := h.2 q156
          refine g_iconst (v := 0) hX d_W_law_928 (by decide) ?_
          exact h.elim
      · have h := h.2.2.2.2.2.2.2.2.2.2.1 hx
        refine g_tableIn (tgt := 950) hX d_W_law_40 (by rw [hx]; decide) (by rw [hx]; decide) (by rw [hx]; rfl) (by decide) ?_
        refine g_aload_n hX d_W_law_950 rfl 1 rfl ?_
        refine g_aload_n hX d_W_law_951 rfl 3 rfl ?_
        refine g_less (k' := 8 * fuel + 1) (n' := 50 * fuel + 6) (by omega) (by omega) ?_
        have z := c_W_day (l := l) (D := D) (AC := AC) (lo := lo) (thr := fun _ _ => False) hl h
        rw [h0, h2] at z
        refine g_callS (k := 8 * fuel) (n := 50 * fuel) hX z hdT_W_day hdO_W_day t_0 t_647 t_648 ⟨⟨by decide, by decide⟩, np_W_day⟩ ⟨Nat.le_of_ble_eq_true rfl, Nat.le_of_ble_eq_true rfl⟩ (Nat.le_of_ble_eq_true rfl) d_W_law_952 rfl ?_ (fun _ _ z => by obtain ⟨_, _, zz⟩ := z; exact zz.elim)
        rintro _ _ ⟨v159, σ160, rfl, rfl, h⟩
        refine g_istore hX d_W_law_955 (by decide) rfl ?_
        refine g_aload_n hX d_W_law_957 rfl 3 rfl ?_
        have z := c_M_day (l := l) (D := D) (AC := AC) (lo := lo) (thr := fun _ _ => False) h
        rw [h1] at z
        refine g_callV (i := 324) (k := 8 * fuel) (n := 50 * fuel) hX z hdT_M_day hdO_M_day t_3 t_925 t_926 t_927 (lt_c (by decide)) h1 (lay_MO (AC := AC) (Γ := Γ)) rfl ⟨⟨by decide, by decide⟩, np_M_day⟩ ⟨Nat.le_of_ble_eq_true rfl, Nat.le_of_ble_eq_true rfl⟩ (Nat.le_of_ble_eq_true rfl) d_W_law_958 rfl ?_ (fun _ _ z => by obtain ⟨_, _, zz⟩ := z; exact zz.elim)
        rintro _ _ ⟨v161, σ162, rfl, rfl, h⟩
        refine g_istore hX d_W_law_961 (by decide) rfl ?_
        refine g_aload_n hX d_W_law_963 rfl 4 rfl ?_
        have z := c_M_thrown (l := l) (D := D) (AC := AC) (lo := lo) (thr := fun _ _ => False) h
        rw [h1] at z
        refine g_callV (i := 324) (k := 8 * fuel) (n := 50 * fuel) hX z hdT_M_thrown hdO_M_thrown t_3 t_870 t_871 t_872 (lt_c (by decide)) h1 (lay_MO (AC := AC) (Γ := Γ)) rfl ⟨⟨by decide, by decide⟩, np_M_thrown⟩ ⟨Nat.le_of_ble_eq_true rfl, Nat.le_of_ble_eq_true rfl⟩ (Nat.le_of_ble_eq_true rfl) d_W_law_964 rfl ?_ (fun _ _ z => by obtain ⟨_, _, zz⟩ := z; exact zz.elim)
        rintro _ _ ⟨v163, σ164, rfl, rfl, h⟩
        refine g_iload hX d_W_law_967 1 rfl ?_
        refine g_icmp_eq (tgt := 974) hX d_W_law_969 (by decide) (fun q165 => ?_) (fun q165 => ?_)
        · have h := h.1 q165
          refine g_iload hX d_W_law_974 1 rfl ?_
          refine g_if_ne (tgt := 991) hX d_W_law_976 (by decide) (fun q166 => ?_) (fun q166 => ?_)
          · have h := h.1 q166
            refine g_goto (tgt := 1592) hX d_W_law_991 (by decide) ?_
            refine g_iinc (v := i + 7) hX d_W_law_1592 6 rfl (congrArg (i + ·) (by decide)) (by decide) rfl ?_
            refine g_goto (tgt := 23) hX d_W_law_1595 (by decide) ?_
            refine g_sub [3, 4, 5, 6, 0] rfl ?_
            refine g_less (k' := 8 * fuel) (n' := 50 * fuel) (by omega) (by omega) ?_
            exact ih Γ ((i + 7)) (σ164) h0 h1 h2 h
          · have h := h.2 q166
            refine g_aload_n hX d_W_law_979 rfl 5 rfl ?_
            refine g_iconst (v := 0) hX d_W_law_980 (by decide) ?_
            refine g_lald (i := 343) hX (lt_c (by decide)) h2 (lay_m18 (AC := AC) (Γ := Γ)) (by unfold vp_in; decide) d_W_law_981 ?_
            refine g_iload hX d_W_law_982 0 rfl ?_
            refine g_i2l hX d_W_law_984 ?_
            refine g_lcmp hX d_W_law_985 ?_
            refine g_if_eq (tgt := 991) hX d_W_law_986 (by decide) (fun q167 => ?_) (fun q167 => ?_)
            · have h := h.1 q167
              refine g_goto (tgt := 1592) hX d_W_law_991 (by decide) ?_
              refine g_iinc (v := i + 7) hX d_W_law_1592 6 rfl (congrArg (i + ·) (by decide)) (by decide) rfl ?_
              refine g_goto (tgt := 23) hX d_W_law_1595 (by decide) ?_
              refine g_sub [3, 4, 5, 6, 0] rfl ?_
              refine g_less (k' := 8 * fuel) (n' := 50 * fuel) (by omega) (by omega) ?_
              exact ih Γ ((i + 7)) (σ164) h0 h1 h2 h
            · have h := h.2 q167
              refine g_iconst (v := 0) hX d_W_law_989 (by decide) ?_
              exact h.elim
        · have h := h.2 q165
          refine g_iconst (v := 0) hX d_W_law_972 (by decide) ?_
          exact h.elim
      · have h := h.2.2.2.2.2.2.2.2.2.2.2.1 hx
        refine g_tableIn (tgt := 994) hX d_W_law_40 (by rw [hx]; decide) (by rw [hx]; decide) (by rw [hx]; rfl) (by decide) ?_
        refine g_aload_n hX d_W_law_994 rfl 1 rfl ?_
        refine g_aload_n hX d_W_law_995 rfl 0 rfl ?_
        refine g_iload hX d_W_law_996 4 rfl ?_
        refine g_iconst (v := 1) hX d_W_law_998 (by decide) ?_
        refine g_iadd hX d_W_law_999 ?_
        obtain ⟨q168, h⟩ := h
        refine g_sld hX hs hbl q168 d_W_law_1000 ?_
        refine g_aload_n hX d_W_law_1001 rfl 0 rfl ?_
        refine g_iload hX d_W_law_1002 4 rfl ?_
        refine g_iconst (v := 2) hX d_W_law_1004 (by decide) ?_
        refine g_iadd hX d_W_law_1005 ?_
        obtain ⟨q169, h⟩ := h
        refine g_sld hX hs hbl q169 d_W_law_1006 ?_
        refine g_aload_n hX d_W_law_1007 rfl 3 rfl ?_
        refine g_less (k' := 8 * fuel + 1) (n' := 50 * fuel + 6) (by omega) (by omega) ?_
        have z := c_W_view (l := l) (D := D) (AC := AC) (lo := lo) (thr := fun _ _ => False) hl h
        rw [h0, h2] at z
        refine g_callS (k := 8 * fuel) (n := 50 * fuel) hX z hdT_W_view hdO_W_view t_0 t_655 t_656 ⟨⟨by decide, by decide⟩, np_W_view⟩ ⟨Nat.le_of_ble_eq_true rfl, Nat.le_of_ble_eq_true rfl⟩ (Nat.le_of_ble_eq_true rfl) d_W_law_1008 rfl ?_ (fun _ _ z => by obtain ⟨_, _, zz⟩ := z; exact zz.elim)
        rintro _ _ ⟨v170, σ171, rfl, rfl, h⟩
        refine g_istore hX d_W_law_1011 (by decide) rfl ?_
        refine g_aload_n hX d_W_law_1013 rfl 3 rfl ?_
        refine g_aload_n hX d_W_law_1014 rfl 1 rfl ?_
        refine g_iload hX d_W_law_1015 5 rfl ?_
        refine g_iconst (v := 1) hX d_W_law_1017 (by decide) ?_
        refine g_iadd hX d_W_law_1018 ?_
        obtain ⟨q172, h⟩ := h
        refine g_sld hX hs hbl q172 d_W_law_1019 ?_
        refine g_aload_n hX d_W_law_1020 rfl 1 rfl ?_
        refine g_iload hX d_W_law_1021 5 rfl ?_
        refine g_iconst (v := 2) hX d_W_law_1023 (by decide) ?_
        refine g_iadd hX d_W_law_1024 ?_
        obtain ⟨q173, h⟩ := h
        refine g_sld hX hs hbl q173 d_W_law_1025 ?_
        have z := c_M_view (l := l) (D := D) (AC := AC) (lo := lo) (thr := fun _ _ => False) h
        rw [h1] at z
        refine g_callV (i := 324) (k := 8 * fuel) (n := 50 * fuel) hX z hdT_M_view hdO_M_view t_3 t_929 t_930 t_931 (lt_c (by decide)) h1 (lay_MO (AC := AC) (Γ := Γ)) rfl ⟨⟨by decide, by decide⟩, np_M_view⟩ ⟨Nat.le_of_ble_eq_true rfl, Nat.le_of_ble_eq_true rfl⟩ (Nat.le_of_ble_eq_true rfl) d_W_law_1026 rfl ?_ (fun _ _ z => by obtain ⟨_, _, zz⟩ := z; exact zz.elim)
        rintro _ _ ⟨v174, σ175, rfl, rfl, h⟩
        refine g_istore hX d_W_law_1029 (by decide) rfl ?_
        refine g_aload_n hX d_W_law_1031 rfl 4 rfl ?_
        have z := c_M_thrown (l := l) (D := D) (AC := AC) (lo := lo) (thr := fun _ _ => False) h
        rw [h1] at z
        refine g_callV (i := 324) (k := 8 * fuel) (n := 50 * fuel) hX z hdT_M_thrown hdO_M_thrown t_3 t_870 t_871 t_872 (lt_c (by decide)) h1 (lay_MO (AC := AC) (Γ := Γ)) rfl ⟨⟨by decide, by decide⟩, np_M_thrown⟩ ⟨Nat.le_of_ble_eq_true rfl, Nat.le_of_ble_eq_true rfl⟩ (Nat.le_of_ble_eq_true rfl) d_W_law_1032 rfl ?_ (fun _ _ z => by obtain ⟨_, _, zz⟩ := z; exact zz.elim)
        rintro _ _ ⟨v176, σ177, rfl, rfl, h⟩
        refine g_iload hX d_W_law_1035 1 rfl ?_
        refine g_icmp_eq (tgt := 1042) hX d_W_law_1037 (by decide) (fun q178 => ?_) (fun q178 => ?_)
        · have h := h.1 q178
          refine g_iload hX d_W_law_1042 1 rfl ?_
          refine g_if_ne (tgt := 1059) hX d_W_law_1044 (by decide) (fun q179 => ?_) (fun q179 => ?_)
          · have h := h.1 q179
            refine g_goto (tgt := 1592) hX d_W_law_1059 (by decide) ?_
            refine g_iinc (v := i + 7) hX d_W_law_1592 6 rfl (congrArg (i + ·) (by decide)) (by decide) rfl ?_
            refine g_goto (tgt := 23) hX d_W_law_1595 (by decide) ?_
            refine g_sub [3, 4, 5, 6, 0] rfl ?_
            refine g_less (k' := 8 * fuel) (n' := 50 * fuel) (by omega) (by omega) ?_
            exact ih Γ ((i + 7)) (σ177) h0 h1 h2 h
          · have h := h.2 q179
            refine g_aload_n hX d_W_law_1047 rfl 5 rfl ?_
            refine g_iconst (v := 0) hX d_W_law_1048 (by decide) ?_
            refine g_lald (i := 343) hX (lt_c (by decide)) h2 (lay_m18 (AC := AC) (Γ := Γ)) (by unfold vp_in; decide) d_W_law_1049 ?_
            refine g_iload hX d_W_law_1050 0 rfl ?_
            refine g_i2l hX d_W_law_1052 ?_
            refine g_lcmp hX d_W_law_1053 ?_
            refine g_if_eq (tgt := 1059) hX d_W_law_1054 (by decide) (fun q180 => ?_) (fun q180 => ?_)
            · have h := h.1 q180
              refine g_goto (tgt := 1592) hX d_W_law_1059 (by decide) ?_
              refine g_iinc (v := i + 7) hX d_W_law_1592 6 rfl (congrArg (i + ·) (by decide)) (by decide) rfl ?_
              refine g_goto (tgt := 23) hX d_W_law_1595 (by decide) ?_
              refine g_sub [3, 4, 5, 6, 0] rfl ?_
              refine g_less (k' := 8 * fuel) (n' := 50 * fuel) (by omega) (by omega) ?_
              exact ih Γ ((i + 7)) (σ177) h0 h1 h2 h
            · have h := h.2 q180
              refine g_iconst (v := 0) hX d_W_law_1057 (by decide) ?_
              exact h.elim
        · have h := h.2 q178
          refine g_iconst (v := 0) hX d_W_law_1040 (by decide) ?_
          exact h.elim
      · have h := h.2.2.2.2.2.2.2.2.2.2.2.2.1 hx
        refine g_tableIn (tgt := 1062) hX d_W_law_40 (by rw [hx]; decide) (by rw [hx]; decide) (by rw [hx]; rfl) (by decide) ?_
        refine g_aload_n hX d_W_law_1062 rfl 1 rfl ?_
        refine g_aload_n hX d_W_law_1063 rfl 0 rfl ?_
        refine g_iload hX d_W_law_1064 4 rfl ?_
        refine g_iconst (v := 1) hX d_W_law_1066 (by decide) ?_
        refine g_iadd hX d_W_law_1067 ?_
        obtain ⟨q181, h⟩ := h
        refine g_sld hX hs hbl q181 d_W_law_1068 ?_
        have z := c_LR_parcel (l := l) (D := D) (AC := AC) (lo := lo) (thr := fun _ _ => False) h
        rw [h0] at z
        refine g_callV (i := 0) (k := 8 * fuel + 8) (n := 50 * fuel + 50) hX z hdT_LR_parcel hdO_LR_parcel t_1 t_114 t_115 t_116 (lt_c (by decide)) h0 (lay_LR (AC := AC) (Γ := Γ)) rfl ⟨⟨by decide, by decide⟩, np_LR_parcel⟩ ⟨Nat.le_of_ble_eq_true rfl, Nat.le_of_ble_eq_true rfl⟩ (Nat.le_of_ble_eq_true rfl) d_W_law_1069 rfl ?_ (fun _ _ z => by obtain ⟨_, _, zz⟩ := z; exact zz.elim)
        rintro _ _ ⟨v182, σ183, rfl, rfl, h⟩
        refine g_aload_n hX d_W_law_1072 rfl 2 rfl ?_
        refine g_aload_n hX d_W_law_1073 rfl 0 rfl ?_
        refine g_iload hX d_W_law_1074 4 rfl ?_
        refine g_iconst (v := 1) hX d_W_law_1076 (by decide) ?_
        refine g_iadd hX d_W_law_1077 ?_
        obtain ⟨q184, h⟩ := h
        refine g_sld hX hs hbl q184 d_W_law_1078 ?_
        have z := c_M_parcel (l := l) (D := D) (AC := AC) (lo := lo) (thr := fun _ _ => False) h
        rw [h1] at z
        refine g_callV (i := 324) (k := 8 * fuel + 8) (n := 50 * fuel + 50) hX z hdT_M_parcel hdO_M_parcel t_3 t_933 t_934 t_935 (lt_c (by decide)) h1 (lay_MO (AC := AC) (Γ := Γ)) rfl ⟨⟨by decide, by decide⟩, np_M_parcel⟩ ⟨Nat.le_of_ble_eq_true rfl, Nat.le_of_ble_eq_true rfl⟩ (Nat.le_of_ble_eq_true rfl) d_W_law_1079 rfl ?_ (fun _ _ z => by obtain ⟨_, _, zz⟩ := z; exact zz.elim)
        rintro _ _ ⟨v185, σ186, rfl, rfl, h⟩
        refine g_icmp_eq (tgt := 1592) hX d_W_law_1082 (by decide) (fun q187 => ?_) (fun q187 => ?_)
        · have h := h.1 q187
          refine g_iinc (v := i + 7) hX d_W_law_1592 4 rfl (congrArg (i + ·) (by decide)) (by decide) rfl ?_
          refine g_goto (tgt := 23) hX d_W_law_1595 (by decide) ?_
          refine g_sub [1, 2, 3, 4, 0] rfl ?_
          refine g_less (k' := 8 * fuel) (n' := 50 * fuel) (by omega) (by omega) ?_
          exact ih Γ ((i + 7)) (σ186) h0 h1 h2 h
        · have h := h.2 q187
          refine g_iconst (v := 0) hX d_W_law_1085 (by decide) ?_
          exact h.elim
      · have h := h.2.2.2.2.2.2.2.2.2.2.2.2.2.1 hx
        refine g_tableIn (tgt := 1087) hX d_W_law_40 (by rw [hx]; decide) (by rw [hx]; decide) (by rw [hx]; rfl) (by decide) ?_
        refine g_aload_n hX d_W_law_1087 rfl 1 rfl ?_
        refine g_aload_n hX d_W_law_1088 rfl 0 rfl ?_
        refine g_iload hX d_W_law_1089 4 rfl ?_
        refine g_iconst (v := 1) hX d_W_law_1091 (by decide) ?_
        refine g_iadd hX d_W_law_1092 ?_
        obtain ⟨q188, h⟩ := h
        refine g_sld hX hs hbl q188 d_W_law_1093 ?_
        refine g_aload_n hX d_W_law_1094 rfl 3 rfl ?_
        refine g_less (k' := 8 * fuel + 1) (n' := 50 * fuel + 6) (by omega) (by omega) ?_
        have z := c_W_area (l := l) (D := D) (AC := AC) (lo := lo) (thr := fun _ _ => False) hl h
        rw [h0, h2] at z
        refine g_callS (k := 8 * fuel) (n := 50 * fuel) hX z hdT_W_area hdO_W_area t_0 t_663 t_664 ⟨⟨by decide, by decide⟩, np_W_area⟩ ⟨Nat.le_of_ble_eq_true rfl, Nat.le_of_ble_eq_true rfl⟩ (Nat.le_of_ble_eq_true rfl) d_W_law_1095 rfl ?_ (fun _ _ z => by obtain ⟨_, _, zz⟩ := z; exact zz.elim)
        rintro _ _ ⟨v189, σ190, rfl, rfl, h⟩
        refine g_istore hX d_W_law_1098 (by decide) rfl ?_
        refine g_aload_n hX d_W_law_1100 rfl 3 rfl ?_
        refine g_aload_n hX d_W_law_1101 rfl 1 rfl ?_
        refine g_iload hX d_W_law_1102 5 rfl ?_
        refine g_iconst (v := 1) hX d_W_law_1104 (by decide) ?_
        refine g_iadd hX d_W_law_1105 ?_
        obtain ⟨q191, h⟩ := h
        refine g_sld hX hs hbl q191 d_W_law_1106 ?_
        have z := c_M_area (l := l) (D := D) (AC := AC) (lo := lo) (thr := fun _ _ => False) h
        rw [h1] at z
        refine g_callV (i := 324) (k := 8 * fuel) (n := 50 * fuel) hX z hdT_M_area hdO_M_area t_3 t_937 t_938 t_939 (lt_c (by decide)) h1 (lay_MO (AC := AC) (Γ := Γ)) rfl ⟨⟨by decide, by decide⟩, np_M_area⟩ ⟨Nat.le_of_ble_eq_true rfl, Nat.le_of_ble_eq_true rfl⟩ (Nat.le_of_ble_eq_true rfl) d_W_law_1107 rfl ?_ (fun _ _ z => by obtain ⟨_, _, zz⟩ := z; exact zz.elim)
        rintro _ _ ⟨v192, σ193, rfl, rfl, h⟩
        refine g_lstore hX d_W_law_1110 (by decide) rfl ?_
        refine g_aload_n hX d_W_law_1112 rfl 4 rfl ?_
        have z := c_M_thrown (l := l) (D := D) (AC := AC) (lo := lo) (thr := fun _ _ => False) h
        rw [h1] at z
        refine g_callV (i := 324) (k := 8 * fuel) (n := 50 * fuel) hX z hdT_M_thrown hdO_M_thrown t_3 t_870 t_871 t_872 (lt_c (by decide)) h1 (lay_MO (AC := AC) (Γ := Γ)) rfl ⟨⟨by decide, by decide⟩, np_M_thrown⟩ ⟨Nat.le_of_ble_eq_true rfl, Nat.le_of_ble_eq_true rfl⟩ (Nat.le_of_ble_eq_true rfl) d_W_law_1113 rfl ?_ (fun _ _ z => by obtain ⟨_, _, zz⟩ := z; exact zz.elim)
        rintro _ _ ⟨v194, σ195, rfl, rfl, h⟩
        refine g_iload hX d_W_law_1116 1 rfl ?_
        refine g_icmp_eq (tgt := 1123) hX d_W_law_1118 (by decide) (fun q196 => ?_) (fun q196 => ?_)
        · have h := h.1 q196
          refine g_iload hX d_W_law_1123 1 rfl ?_
          refine g_if_ne (tgt := 1139) hX d_W_law_1125 (by decide) (fun q197 => ?_) (fun q197 => ?_)
          · have h := h.1 q197
            refine g_goto (tgt := 1592) hX d_W_law_1139 (by decide) ?_
            refine g_iinc (v := i + 7) hX d_W_law_1592 6 rfl (congrArg (i + ·) (by decide)) (by decide) rfl ?_
            refine g_goto (tgt := 23) hX d_W_law_1595 (by decide) ?_
            refine g_sub [3, 4, 5, 6, 0] rfl ?_
            refine g_less (k' := 8 * fuel) (n' := 50 * fuel) (by omega) (by omega) ?_
            exact ih Γ ((i + 7)) (σ195) h0 h1 h2 h
          · have h := h.2 q197
            refine g_aload_n hX d_W_law_1128 rfl 5 rfl ?_
            refine g_iconst (v := 0) hX d_W_law_1129 (by decide) ?_
            refine g_lald (i := 343) hX (lt_c (by decide)) h2 (lay_m18 (AC := AC) (Γ := Γ)) (by unfold vp_in; decide) d_W_law_1130 ?_
            refine g_lload hX d_W_law_1131 0 rfl ?_
            refine g_lcmp hX d_W_law_1133 ?_
            refine g_if_eq (tgt := 1139) hX d_W_law_1134 (by decide) (fun q198 => ?_) (fun q198 => ?_)
            · have h := h.1 q198
              refine g_goto (tgt := 1592) hX d_W_law_1139 (by decide) ?_
              refine g_iinc (v := i + 7) hX d_W_law_1592 6 rfl (congrArg (i + ·) (by decide)) (by decide) rfl ?_
              refine g_goto (tgt := 23) hX d_W_law_1595 (by decide) ?_
              refine g_sub [3, 4, 5, 6, 0] rfl ?_
              refine g_less (k' := 8 * fuel) (n' := 50 * fuel) (by omega) (by omega) ?_
              exact ih Γ ((i + 7)) (σ195) h0 h1 h2 h
            · have h := h.2 q198
              refine g_iconst (v := 0) hX d_W_law_1137 (by decide) ?_
              exact h.elim
        · have h := h.2 q196
          refine g_iconst (v := 0) hX d_W_law_1121 (by decide) ?_
          exact h.elim
      · have h := h.2.2.2.2.2.2.2.2.2.2.2.2.2.2.1 hx
        refine g_tableIn (tgt := 1142) hX d_W_law_40 (by rw [hx]; decide) (by rw [hx]; decide) (by rw [hx]; rfl) (by decide) ?_
        refine g_aload_n hX d_W_law_1142 rfl 1 rfl ?_
        refine g_aload_n hX d_W_law_1143 rfl 0 rfl ?_
        refine g_iload hX d_W_law_1144 4 rfl ?_
        refine g_iconst (v := 1) hX d_W_law_1146 (by decide) ?_
        refine g_iadd hX d_W_law_1147 ?_
        obtain ⟨q199, h⟩ := h
        refine g_sld hX hs hbl q199 d_W_law_1148 ?_
        refine g_aload_n hX d_W_law_1149 rfl 0 rfl ?_
        refine g_iload hX d_W_law_1150 4 rfl ?_
        refine g_iconst (v := 2) hX d_W_law_1152 (by decide) ?_
        refine g_iadd hX d_W_law_1153 ?_
        obtain ⟨q200, h⟩ := h
        refine g_sld hX hs hbl q200 d_W_law_1154 ?_
        refine g_aload_n hX d_W_law_1155 rfl 3 rfl ?_
        refine g_less (k' := 8 * fuel + 2) (n' := 50 * fuel + 12) (by omega) (by omega) ?_
        have z := c_W_share (l := l) (D := D) (AC := AC) (lo := lo) (thr := fun _ _ => False) hl h
        rw [h0, h2] at z
        refine g_callS (k := 8 * fuel) (n := 50 * fuel) hX z hdT_W_share hdO_W_share t_0 t_670 t_671 ⟨⟨by decide, by decide⟩, np_W_share⟩ ⟨Nat.le_of_ble_eq_true rfl, Nat.le_of_ble_eq_true rfl⟩ (Nat.le_of_ble_eq_true rfl) d_W_law_1156 rfl ?_ (fun _ _ z => by obtain ⟨_, _, zz⟩ := z; exact zz.elim)
        rintro _ _ ⟨v201, σ202, rfl, rfl, h⟩
        refine g_istore hX d_W_law_1159 (by decide) rfl ?_
        refine g_aload_n hX d_W_law_1161 rfl 3 rfl ?_
        refine g_aload_n hX d_W_law_1162 rfl 1 rfl ?_
        refine g_iload hX d_W_law_1163 5 rfl ?_
        refine g_iconst (v := 1) hX d_W_law_1165 (by decide) ?_
        refine g_iadd hX d_W_law_1166 ?_
        obtain ⟨q203, h⟩ := h
        refine g_sld hX hs hbl q203 d_W_law_1167 ?_
        refine g_aload_n hX d_W_law_1168 rfl 1 rfl ?_
        refine g_iload hX d_W_law_1169 5 rfl ?_
        refine g_iconst (v := 2) hX d_W_law_1171 (by decide) ?_
        refine g_iadd hX d_W_law_1172 ?_
        obtain ⟨q204, h⟩ := h
        refine g_sld hX hs hbl q204 d_W_law_1173 ?_
        have z := c_M_share (l := l) (D := D) (AC := AC) (lo := lo) (thr := fun _ _ => False) h
        rw [h1] at z
        refine g_callV (i := 324) (k := 8 * fuel) (n := 50 * fuel) hX z hdT_M_share hdO_M_share t_3 t_941 t_942 t_943 (lt_c (by decide)) h1 (lay_MO (AC := AC) (Γ := Γ)) rfl ⟨⟨by decide, by decide⟩, np_M_share⟩ ⟨Nat.le_of_ble_eq_true rfl, Nat.le_of_ble_eq_true rfl⟩ (Nat.le_of_ble_eq_true rfl) d_W_law_1174 rfl ?_ (fun _ _ z => by obtain ⟨_, _, zz⟩ := z; exact zz.elim)
        rintro _ _ ⟨v205, σ206, rfl, rfl, h⟩
        refine g_lstore hX d_W_law_1177 (by decide) rfl ?_
        refine g_aload_n hX d_W_law_1179 rfl 4 rfl ?_
        have z := c_M_thrown (l := l) (D := D) (AC := AC) (lo := lo) (thr := fun _ _ => False) h
        rw [h1] at z
        refine g_callV (i := 324) (k := 8 * fuel) (n := 50 * fuel) hX z hdT_M_thrown hdO_M_thrown t_3 t_870 t_871 t_872 (lt_c (by decide)) h1 (lay_MO (AC := AC) (Γ := Γ)) rfl ⟨⟨by decide, by decide⟩, np_M_thrown⟩ ⟨Nat.le_of_ble_eq_true rfl, Nat.le_of_ble_eq_true rfl⟩ (Nat.le_of_ble_eq_true rfl) d_W_law_1180 rfl ?_ (fun _ _ z => by obtain ⟨_, _, zz⟩ := z; exact zz.elim)
        rintro _ _ ⟨v207, σ208, rfl, rfl, h⟩
        refine g_iload hX d_W_law_1183 1 rfl ?_
        refine g_icmp_eq (tgt := 1190) hX d_W_law_1185 (by decide) (fun q209 => ?_) (fun q209 => ?_)
        · have h := h.1 q209
          refine g_iload hX d_W_law_1190 1 rfl ?_
          refine g_if_ne (tgt := 1206) hX d_W_law_1192 (by decide) (fun q210 => ?_) (fun q210 => ?_)
          · have h := h.1 q210
            refine g_goto (tgt := 1592) hX d_W_law_1206 (by decide) ?_
            refine g_iinc (v := i + 7) hX d_W_law_1592 6 rfl (congrArg (i + ·) (by decide)) (by decide) rfl ?_
            refine g_goto (tgt := 23) hX d_W_law_1595 (by decide) ?_
            refine g_sub [3, 4, 5, 6, 0] rfl ?_
            refine g_less (k' := 8 * fuel) (n' := 50 * fuel) (by omega) (by omega) ?_
            exact ih Γ ((i + 7)) (σ208) h0 h1 h2 h
          · have h := h.2 q210
            refine g_aload_n hX d_W_law_1195 rfl 5 rfl ?_
            refine g_iconst (v := 0) hX d_W_law_1196 (by decide) ?_
            refine g_lald (i := 343) hX (lt_c (by decide)) h2 (lay_m18 (AC := AC) (Γ := Γ)) (by unfold vp_in; decide) d_W_law_1197 ?_
            refine g_lload hX d_W_law_1198 0 rfl ?_
            refine g_lcmp hX d_W_law_1200 ?_
            refine g_if_eq (tgt := 1206) hX d_W_law_1201 (by decide) (fun q211 => ?_) (fun q211 => ?_)
            · have h := h.1 q211
              refine g_goto (tgt := 1592) hX d_W_law_1206 (by decide) ?_
              refine g_iinc (v := i + 7) hX d_W_law_1592 6 rfl (congrArg (i + ·) (by decide)) (by decide) rfl ?_
              refine g_goto (tgt := 23) hX d_W_law_1595 (by decide) ?_
              refine g_sub [3, 4, 5, 6, 0] rfl ?_
              refine g_less (k' := 8 * fuel) (n' := 50 * fuel) (by omega) (by omega) ?_
              exact ih Γ ((i + 7)) (σ208) h0 h1 h2 h
            · have h := h.2 q211
              refine g_iconst (v := 0) hX d_W_law_1204 (by decide) ?_
              exact h.elim
        · have h := h.2 q209
          refine g_iconst (v := 0) hX d_W_law_1188 (by decide) ?_
          exact h.elim
      · have h := h.2.2.2.2.2.2.2.2.2.2.2.2.2.2.2.1 hx
        refine g_tableIn (tgt := 1209) hX d_W_law_40 (by rw [hx]; decide) (by rw [hx]; decide) (by rw [hx]; rfl) (by decide) ?_
        refine g_aload_n hX d_W_law_1209 rfl 1 rfl ?_
        refine g_aload_n hX d_W_law_1210 rfl 0 rfl ?_
        refine g_iload hX d_W_law_1211 4 rfl ?_
        refine g_iconst (v := 1) hX d_W_law_1213 (by decide) ?_
        refine g_iadd hX d_W_law_1214 ?_
        obtain ⟨q212, h⟩ := h
        refine g_sld hX hs hbl q212 d_W_law_1215 ?_
        refine g_aload_n hX d_W_law_1216 rfl 0 rfl ?_
        refine g_iload hX d_W_law_1217 4 rfl ?_
        refine g_iconst (v := 2) hX d_W_law_1219 (by decide) ?_
        refine g_iadd hX d_W_law_1220 ?_
        obtain ⟨q213, h⟩ := h
        refine g_sld hX hs hbl q213 d_W_law_1221 ?_
        refine g_aload_n hX d_W_law_1222 rfl 0 rfl ?_
        refine g_iload hX d_W_law_1223 4 rfl ?_
        refine g_iconst (v := 3) hX d_W_law_1225 (by decide) ?_
        refine g_iadd hX d_W_law_1226 ?_
        obtain ⟨q214, h⟩ := h
        refine g_sld hX hs hbl q214 d_W_law_1227 ?_
        refine g_aload_n hX d_W_law_1228 rfl 3 rfl ?_
        refine g_less (k' := 8 * fuel + 1) (n' := 50 * fuel + 6) (by omega) (by omega) ?_
        have z := c_W_mortgage (l := l) (D := D) (AC := AC) (lo := lo) (thr := fun _ _ => False) hl h
        rw [h0, h2] at z
        refine g_callS (k := 8 * fuel) (n := 50 * fuel) hX z hdT_W_mortgage hdO_W_mortgage t_0 t_677 t_678 ⟨⟨by decide, by decide⟩, np_W_mortgage⟩ ⟨Nat.le_of_ble_eq_true rfl, Nat.le_of_ble_eq_true rfl⟩ (Nat.le_of_ble_eq_true rfl) d_W_law_1229 rfl ?_ (fun _ _ z => by obtain ⟨_, _, zz⟩ := z; exact zz.elim)
        rintro _ _ ⟨v215, σ216, rfl, rfl, h⟩
        refine g_istore hX d_W_law_1232 (by decide) rfl ?_
        refine g_aload_n hX d_W_law_1234 rfl 3 rfl ?_
        refine g_aload_n hX d_W_law_1235 rfl 1 rfl ?_
        refine g_iload hX d_W_law_1236 5 rfl ?_
        refine g_iconst (v := 1) hX d_W_law_1238 (by decide) ?_
        refine g_iadd hX d_W_law_1239 ?_
        obtain ⟨q217, h⟩ := h
        refine g_sld hX hs hbl q217 d_W_law_1240 ?_
        refine g_aload_n hX d_W_law_1241 rfl 1 rfl ?_
        refine g_iload hX d_W_law_1242 5 rfl ?_
        refine g_iconst (v := 2) hX d_W_law_1244 (by decide) ?_
        refine g_iadd hX d_W_law_1245 ?_
        obtain ⟨q218, h⟩ := h
        refine g_sld hX hs hbl q218 d_W_law_1246 ?_
        refine g_aload_n hX d_W_law_1247 rfl 1 rfl ?_
        refine g_iload hX d_W_law_1248 5 rfl ?_
        refine g_iconst (v := 3) hX d_W_law_1250 (by decide) ?_
        refine g_iadd hX d_W_law_1251 ?_
        obtain ⟨q219, h⟩ := h
        refine g_sld hX hs hbl q219 d_W_law_1252 ?_
        have z := c_M_mortgage (l := l) (D := D) (AC := AC) (lo := lo) (thr := fun _ _ => False) h
        rw [h1] at z
        refine g_callV (i := 324) (k := 8 * fuel) (n := 50 * fuel) hX z hdT_M_mortgage hdO_M_mortgage t_3 t_945 t_946 t_947 (lt_c (by decide)) h1 (lay_MO (AC := AC) (Γ := Γ)) rfl ⟨⟨by decide, by decide⟩, np_M_mortgage⟩ ⟨Nat.le_of_ble_eq_true rfl, Nat.le_of_ble_eq_true rfl⟩ (Nat.le_of_ble_eq_true rfl) d_W_law_1253 rfl ?_ (fun _ _ z => by obtain ⟨_, _, zz⟩ := z; exact zz.elim)
        rintro _ _ ⟨v220, σ221, rfl, rfl, h⟩
        refine g_istore hX d_W_law_1256 (by decide) rfl ?_
        refine g_aload_n hX d_W_law_1258 rfl 4 rfl ?_
        have z := c_M_thrown (l := l) (D := D) (AC := AC) (lo := lo) (thr := fun _ _ => False) h
        rw [h1] at z
        refine g_callV (i := 324) (k := 8 * fuel) (n := 50 * fuel) hX z hdT_M_thrown hdO_M_thrown t_3 t_870 t_871 t_872 (lt_c (by decide)) h1 (lay_MO (AC := AC) (Γ := Γ)) rfl ⟨⟨by decide, by decide⟩, np_M_thrown⟩ ⟨Nat.le_of_ble_eq_true rfl, Nat.le_of_ble_eq_true rfl⟩ (Nat.le_of_ble_eq_true rfl) d_W_law_1259 rfl ?_ (fun _ _ z => by obtain ⟨_, _, zz⟩ := z; exact zz.elim)
        rintro _ _ ⟨v222, σ223, rfl, rfl, h⟩
        refine g_iload hX d_W_law_1262 1 rfl ?_
        refine g_icmp_eq (tgt := 1269) hX d_W_law_1264 (by decide) (fun q224 => ?_) (fun q224 => ?_)
        · have h := h.1 q224
          refine g_iload hX d_W_law_1269 1 rfl ?_
          refine g_if_ne (tgt := 1286) hX d_W_law_1271 (by decide) (fun q225 => ?_) (fun q225 => ?_)
          · have h := h.1 q225
            refine g_goto (tgt := 1592) hX d_W_law_1286 (by decide) ?_
            refine g_iinc (v := i + 7) hX d_W_law_1592 6 rfl (congrArg (i + ·) (by decide)) (by decide) rfl ?_
            refine g_goto (tgt := 23) hX d_W_law_1595 (by decide) ?_
            refine g_sub [3, 4, 5, 6, 0] rfl ?_
            refine g_less (k' := 8 * fuel) (n' := 50 * fuel) (by omega) (by omega) ?_
            exact ih Γ ((i + 7)) (σ223) h0 h1 h2 h
          · have h := h.2 q225
            refine g_aload_n hX d_W_law_1274 rfl 5 rfl ?_
            refine g_iconst (v := 0) hX d_W_law_1275 (by decide) ?_
            refine g_lald (i := 343) hX (lt_c (by decide)) h2 (lay_m18 (AC := AC) (Γ := Γ)) (by unfold vp_in; decide) d_W_law_1276 ?_
            refine g_iload hX d_W_law_1277 0 rfl ?_
            refine g_i2l hX d_W_law_1279 ?_
            refine g_lcmp hX d_W_law_1280 ?_
            refine g_if_eq (tgt := 1286) hX d_W_law_1281 (by decide) (fun q226 => ?_) (fun q226 => ?_)
            · have h := h.1 q226
              refine g_goto (tgt := 1592) hX d_W_law_1286 (by decide) ?_
              refine g_iinc (v := i + 7) hX d_W_law_1592 6 rfl (congrArg (i + ·) (by decide)) (by decide) rfl ?_
              refine g_goto (tgt := 23) hX d_W_law_1595 (by decide) ?_
              refine g_sub [3, 4, 5, 6, 0] rfl ?_
              refine g_less (k' := 8 * fuel) (n' := 50 * fuel) (by omega) (by omega) ?_
              exact ih Γ ((i + 7)) (σ223) h0 h1 h2 h
            · have h := h.2 q226
              refine g_iconst (v := 0) hX d_W_law_1284 (by decide) ?_
              exact h.elim
        · have h := h.2 q224
          refine g_iconst (v := 0) hX d_W_law_1267 (by decide) ?_
          exact h.elim
      · have h := h.2.2.2.2.2.2.2.2.2.2.2.2.2.2.2.2.1 hx
        refine g_tableIn (tgt := 1289) hX d_W_law_40 (by rw [hx]; decide) (by rw [hx]; decide) (by rw [hx]; rfl) (by decide) ?_
        refine g_aload_n hX d_W_law_1289 rfl 1 rfl ?_
        refine g_aload_n hX d_W_law_1290 rfl 0 rfl ?_
        refine g_iload hX d_W_law_1291 4 rfl ?_
        refine g_iconst (v := 1) hX d_W_law_1293 (by decide) ?_
        refine g_iadd hX d_W_law_1294 ?_
        obtain ⟨q227, h⟩ := h
        refine g_sld hX hs hbl q227 d_W_law_1295 ?_
        refine g_aload_n hX d_W_law_1296 rfl 3 rfl ?_
        refine g_less (k' := 8 * fuel + 1) (n' := 50 * fuel + 6) (by omega) (by omega) ?_
        have z := c_W_cautions (l := l) (D := D) (AC := AC) (lo := lo) (thr := fun _ _ => False) hl h
        rw [h0, h2] at z
        refine g_callS (k := 8 * fuel) (n := 50 * fuel) hX z hdT_W_cautions hdO_W_cautions t_0 t_684 t_685 ⟨⟨by decide, by decide⟩, np_W_cautions⟩ ⟨Nat.le_of_ble_eq_true rfl, Nat.le_of_ble_eq_true rfl⟩ (Nat.le_of_ble_eq_true rfl) d_W_law_1297 rfl ?_ (fun _ _ z => by obtain ⟨_, _, zz⟩ := z; exact zz.elim)
        rintro _ _ ⟨v228, σ229, rfl, rfl, h⟩
        refine g_istore hX d_W_law_1300 (by decide) rfl ?_
        refine g_aload_n hX d_W_law_1302 rfl 3 rfl ?_
        refine g_aload_n hX d_W_law_1303 rfl 1 rfl ?_
        refine g_iload hX d_W_law_1304 5 rfl ?_
        refine g_iconst (v := 1) hX d_W_law_1306 (by decide) ?_
        refine g_iadd hX d_W_law_1307 ?_
        obtain ⟨q230, h⟩ := h
        refine g_sld hX hs hbl q230 d_W_law_1308 ?_
        have z := c_M_cautions (l := l) (D := D) (AC := AC) (lo := lo) (thr := fun _ _ => False) h
        rw [h1] at z
        refine g_callV (i := 324) (k := 8 * fuel) (n := 50 * fuel) hX z hdT_M_cautions hdO_M_cautions t_3 t_949 t_950 t_951 (lt_c (by decide)) h1 (lay_MO (AC := AC) (Γ := Γ)) rfl ⟨⟨by decide, by decide⟩, np_M_cautions⟩ ⟨Nat.le_of_ble_eq_true rfl, Nat.le_of_ble_eq_true rfl⟩ (Nat.le_of_ble_eq_true rfl) d_W_law_1309 rfl ?_ (fun _ _ z => by obtain ⟨_, _, zz⟩ := z; exact zz.elim)
        rintro _ _ ⟨v231, σ232, rfl, rfl, h⟩
        refine g_istore hX d_W_law_1312 (by decide) rfl ?_
        refine g_aload_n hX d_W_law_1314 rfl 4 rfl ?_
        have z := c_M_thrown (l := l) (D := D) (AC := AC) (lo := lo) (thr := fun _ _ => False) h
        rw [h1] at z
        refine g_callV (i := 324) (k := 8 * fuel) (n := 50 * fuel) hX z hdT_M_thrown hdO_M_thrown t_3 t_870 t_871 t_872 (lt_c (by decide)) h1 (lay_MO (AC := AC) (Γ := Γ)) rfl ⟨⟨by decide, by decide⟩, np_M_thrown⟩ ⟨Nat.le_of_ble_eq_true rfl, Nat.le_of_ble_eq_true rfl⟩ (Nat.le_of_ble_eq_true rfl) d_W_law_1315 rfl ?_ (fun _ _ z => by obtain ⟨_, _, zz⟩ := z; exact zz.elim)
        rintro _ _ ⟨v233, σ234, rfl, rfl, h⟩
        refine g_iload hX d_W_law_1318 1 rfl ?_
        refine g_icmp_eq (tgt := 1325) hX d_W_law_1320 (by decide) (fun q235 => ?_) (fun q235 => ?_)
        · have h := h.1 q235
          refine g_iload hX d_W_law_1325 1 rfl ?_
          refine g_if_ne (tgt := 1342) hX d_W_law_1327 (by decide) (fun q236 => ?_) (fun q236 => ?_)
          · have h := h.1 q236
            refine g_goto (tgt := 1592) hX d_W_law_1342 (by decide) ?_
            refine g_iinc (v := i + 7) hX d_W_law_1592 6 rfl (congrArg (i + ·) (by decide)) (by decide) rfl ?_
            refine g_goto (tgt := 23) hX d_W_law_1595 (by decide) ?_
            refine g_sub [3, 4, 5, 6, 0] rfl ?_
            refine g_less (k' := 8 * fuel) (n' := 50 * fuel) (by omega) (by omega) ?_
            exact ih Γ ((i + 7)) (σ234) h0 h1 h2 h
          · have h := h.2 q236
            refine g_aload_n hX d_W_law_1330 rfl 5 rfl ?_
            refine g_iconst (v := 0) hX d_W_law_1331 (by decide) ?_
            refine g_lald (i := 343) hX (lt_c (by decide)) h2 (lay_m18 (AC := AC) (Γ := Γ)) (by unfold vp_in; decide) d_W_law_1332 ?_
            refine g_iload hX d_W_law_1333 0 rfl ?_
            refine g_i2l hX d_W_law_1335 ?_
            refine g_lcmp hX d_W_law_1336 ?_
            refine g_if_eq (tgt := 1342) hX d_W_law_1337 (by decide) (fun q237 => ?_) (fun q237 => ?_)
            · have h := h.1 q237
              refine g_goto (tgt := 1592) hX d_W_law_1342 (by decide) ?_
              refine g_iinc (v := i + 7) hX d_W_law_1592 6 rfl (congrArg (i + ·) (by decide)) (by decide) rfl ?_
              refine g_goto (tgt := 23) hX d_W_law_1595 (by decide) ?_
              refine g_sub [3, 4, 5, 6, 0] rfl ?_
              refine g_less (k' := 8 * fuel) (n' := 50 * fuel) (by omega) (by omega) ?_
              exact ih Γ ((i + 7)) (σ234) h0 h1 h2 h
            · have h := h.2 q237
              refine g_iconst (v := 0) hX d_W_law_1340 (by decide) ?_
              exact h.elim
        · have h := h.2 q235
          refine g_iconst (v := 0) hX d_W_law_1323 (by decide) ?_
          exact h.elim
      · have h := h.2.2.2.2.2.2.2.2.2.2.2.2.2.2.2.2.2.1 hx
        refine g_tableIn (tgt := 1345) hX d_W_law_40 (by rw [hx]; decide) (by rw [hx]; decide) (by rw [hx]; rfl) (by decide) ?_
        refine g_aload_n hX d_W_law_1345 rfl 1 rfl ?_
        refine g_aload_n hX d_W_law_1346 rfl 0 rfl ?_
        refine g_iload hX d_W_law_1347 4 rfl ?_
        refine g_iconst (v := 1) hX d_W_law_1349 (by decide) ?_
        refine g_iadd hX d_W_law_1350 ?_
        obtain ⟨q238, h⟩ := h
        refine g_sld hX hs hbl q238 d_W_law_1351 ?_
        refine g_aload_n hX d_W_law_1352 rfl 0 rfl ?_
        refine g_iload hX d_W_law_1353 4 rfl ?_
        refine g_iconst (v := 2) hX d_W_law_1355 (by decide) ?_
        refine g_iadd hX d_W_law_1356 ?_
        obtain ⟨q239, h⟩ := h
        refine g_sld hX hs hbl q239 d_W_law_1357 ?_
        refine g_aload_n hX d_W_law_1358 rfl 3 rfl ?_
        refine g_less (k' := 8 * fuel + 1) (n' := 50 * fuel + 6) (by omega) (by omega) ?_
        have z := c_W_origin (l := l) (D := D) (AC := AC) (lo := lo) (thr := fun _ _ => False) hl h
        rw [h0, h2] at z
        refine g_callS (k := 8 * fuel) (n := 50 * fuel) hX z hdT_W_origin hdO_W_origin t_0 t_691 t_692 ⟨⟨by decide, by decide⟩, np_W_origin⟩ ⟨Nat.le_of_ble_eq_true rfl, Nat.le_of_ble_eq_true rfl⟩ (Nat.le_of_ble_eq_true rfl) d_W_law_1359 rfl ?_ (fun _ _ z => by obtain ⟨_, _, zz⟩ := z; exact zz.elim)
        rintro _ _ ⟨v240, σ241, rfl, rfl, h⟩
        refine g_istore hX d_W_law_1362 (by decide) rfl ?_
        refine g_aload_n hX d_W_law_1364 rfl 3 rfl ?_
        refine g_aload_n hX d_W_law_1365 rfl 1 rfl ?_
        refine g_iload hX d_W_law_1366 5 rfl ?_
        refine g_iconst (v := 1) hX d_W_law_1368 (by decide) ?_
        refine g_iadd hX d_W_law_1369 ?_
        obtain ⟨q242, h⟩ := h
        refine g_sld hX hs hbl q242 d_W_law_1370 ?_
        refine g_aload_n hX d_W_law_1371 rfl 1 rfl ?_
        refine g_iload hX d_W_law_1372 5 rfl ?_
        refine g_iconst (v := 2) hX d_W_law_1374 (by decide) ?_
        refine g_iadd hX d_W_law_1375 ?_
        obtain ⟨q243, h⟩ := h
        refine g_sld hX hs hbl q243 d_W_law_1376 ?_
        have z := c_M_origin (l := l) (D := D) (AC := AC) (lo := lo) (thr := fun _ _ => False) h
        rw [h1] at z
        refine g_callV (i := 324) (k := 8 * fuel) (n := 50 * fuel) hX z hdT_M_origin hdO_M_origin t_3 t_953 t_954 t_955 (lt_c (by decide)) h1 (lay_MO (AC := AC) (Γ := Γ)) rfl ⟨⟨by decide, by decide⟩, np_M_origin⟩ ⟨Nat.le_of_ble_eq_true rfl, Nat.le_of_ble_eq_true rfl⟩ (Nat.le_of_ble_eq_true rfl) d_W_law_1377 rfl ?_ (fun _ _ z => by obtain ⟨_, _, zz⟩ := z; exact zz.elim)
        rintro _ _ ⟨v244, σ245, rfl, rfl, h⟩
        refine g_istore hX d_W_law_1380 (by decide) rfl ?_
        refine g_aload_n hX d_W_law_1382 rfl 4 rfl ?_
        have z := c_M_thrown (l := l) (D := D) (AC := AC) (lo := lo) (thr := fun _ _ => False) h
        rw [h1] at z
        refine g_callV (i := 324) (k := 8 * fuel) (n := 50 * fuel) hX z hdT_M_thrown hdO_M_thrown t_3 t_870 t_871 t_872 (lt_c (by decide)) h1 (lay_MO (AC := AC) (Γ := Γ)) rfl ⟨⟨by decide, by decide⟩, np_M_thrown⟩ ⟨Nat.le_of_ble_eq_true rfl, Nat.le_of_ble_eq_true rfl⟩ (Nat.le_of_ble_eq_true rfl) d_W_law_1383 rfl ?_ (fun _ _ z => by obtain ⟨_, _, zz⟩ := z; exact zz.elim)
        rintro _ _ ⟨v246, σ247, rfl, rfl, h⟩
        refine g_iload hX d_W_law_1386 1 rfl ?_
        refine g_icmp_eq (tgt := 1393) hX d_W_law_1388 (by decide) (fun q248 => ?_) (fun q248 => ?_)
        · have h := h.1 q248
          refine g_iload hX d_W_law_1393 1 rfl ?_
          refine g_if_ne (tgt := 1410) hX d_W_law_1395 (by decide) (fun q249 => ?_) (fun q249 => ?_)
          · have h := h.1 q249
            refine g_goto (tgt := 1592) hX d_W_law_1410 (by decide) ?_
            refine g_iinc (v := i + 7) hX d_W_law_1592 6 rfl (congrArg (i + ·) (by decide)) (by decide) rfl ?_
            refine g_goto (tgt := 23) hX d_W_law_1595 (by decide) ?_
            refine g_sub [3, 4, 5, 6, 0] rfl ?_
            refine g_less (k' := 8 * fuel) (n' := 50 * fuel) (by omega) (by omega) ?_
            exact ih Γ ((i + 7)) (σ247) h0 h1 h2 h
          · have h := h.2 q249
            refine g_aload_n hX d_W_law_1398 rfl 5 rfl ?_
            refine g_iconst (v := 0) hX d_W_law_1399 (by decide) ?_
            refine g_lald (i := 343) hX (lt_c (by decide)) h2 (lay_m18 (AC := AC) (Γ := Γ)) (by unfold vp_in; decide) d_W_law_1400 ?_
            refine g_iload hX d_W_law_1401 0 rfl ?_
            refine g_i2l hX d_W_law_1403 ?_
            refine g_lcmp hX d_W_law_1404 ?_
            refine g_if_eq (tgt := 1410) hX d_W_law_1405 (by decide) (fun q250 => ?_) (fun q250 => ?_)
            · have h := h.1 q250
              refine g_goto (tgt := 1592) hX d_W_law_1410 (by decide) ?_
              refine g_iinc (v := i + 7) hX d_W_law_1592 6 rfl (congrArg (i + ·) (by decide)) (by decide) rfl ?_
              refine g_goto (tgt := 23) hX d_W_law_1595 (by decide) ?_
              refine g_sub [3, 4, 5, 6, 0] rfl ?_
              refine g_less (k' := 8 * fuel) (n' := 50 * fuel) (by omega) (by omega) ?_
              exact ih Γ ((i + 7)) (σ247) h0 h1 h2 h
            · have h := h.2 q250
              refine g_iconst (v := 0) hX d_W_law_1408 (by decide) ?_
              exact h.elim
        · have h := h.2 q248
          refine g_iconst (v := 0) hX d_W_law_1391 (by decide) ?_
          exact h.elim
      · have h := h.2.2.2.2.2.2.2.2.2.2.2.2.2.2.2.2.2.2.1 hx
        refine g_tableIn (tgt := 1413) hX d_W_law_40 (by rw [hx]; decide) (by rw [hx]; decide) (by rw [hx]; rfl) (by decide) ?_
        refine g_aload_n hX d_W_law_1413 rfl 1 rfl ?_
        refine g_aload_n hX d_W_law_1414 rfl 0 rfl ?_
        refine g_iload hX d_W_law_1415 4 rfl ?_
        refine g_iconst (v := 1) hX d_W_law_1417 (by decide) ?_
        refine g_iadd hX d_W_law_1418 ?_
        obtain ⟨q251, h⟩ := h
        refine g_sld hX hs hbl q251 d_W_law_1419 ?_
        refine g_aload_n hX d_W_law_1420 rfl 0 rfl ?_
        refine g_iload hX d_W_law_1421 4 rfl ?_
        refine g_iconst (v := 2) hX d_W_law_1423 (by decide) ?_
        refine g_iadd hX d_W_law_1424 ?_
        obtain ⟨q252, h⟩ := h
        refine g_sld hX hs hbl q252 d_W_law_1425 ?_
        refine g_aload_n hX d_W_law_1426 rfl 3 rfl ?_
        refine g_less (k' := 8 * fuel + 1) (n' := 50 * fuel + 6) (by omega) (by omega) ?_
        have z := c_W_holding (l := l) (D := D) (AC := AC) (lo := lo) (thr := fun _ _ => False) hl h
        rw [h0, h2] at z
        refine g_callS (k := 8 * fuel) (n := 50 * fuel) hX z hdT_W_holding hdO_W_holding t_0 t_698 t_699 ⟨⟨by decide, by decide⟩, np_W_holding⟩ ⟨Nat.le_of_ble_eq_true rfl, Nat.le_of_ble_eq_true rfl⟩ (Nat.le_of_ble_eq_true rfl) d_W_law_1427 rfl ?_ (fun _ _ z => by obtain ⟨_, _, zz⟩ := z; exact zz.elim)
        rintro _ _ ⟨v253, σ254, rfl, rfl, h⟩
        refine g_istore hX d_W_law_1430 (by decide) rfl ?_
        refine g_aload_n hX d_W_law_1432 rfl 3 rfl ?_
        refine g_aload_n hX d_W_law_1433 rfl 1 rfl ?_
        refine g_iload hX d_W_law_1434 5 rfl ?_
        refine g_iconst (v := 1) hX d_W_law_1436 (by decide) ?_
        refine g_iadd hX d_W_law_1437 ?_
        obtain ⟨q255, h⟩ := h
        refine g_sld hX hs hbl q255 d_W_law_1438 ?_
        refine g_aload_n hX d_W_law_1439 rfl 1 rfl ?_
        refine g_iload hX d_W_law_1440 5 rfl ?_
        refine g_iconst (v := 2) hX d_W_law_1442 (by decide) ?_
        refine g_iadd hX d_W_law_1443 ?_
        obtain ⟨q256, h⟩ := h
        refine g_sld hX hs hbl q256 d_W_law_1444 ?_
        have z := c_M_holding (l := l) (D := D) (AC := AC) (lo := lo) (thr := fun _ _ => False) h
        rw [h1] at z
        refine g_callV (i := 324) (k := 8 * fuel) (n := 50 * fuel) hX z hdT_M_holding hdO_M_holding t_3 t_957 t_958 t_959 (lt_c (by decide)) h1 (lay_MO (AC := AC) (Γ := Γ)) rfl ⟨⟨by decide, by decide⟩, np_M_holding⟩ ⟨Nat.le_of_ble_eq_true rfl, Nat.le_of_ble_eq_true rfl⟩ (Nat.le_of_ble_eq_true rfl) d_W_law_1445 rfl ?_ (fun _ _ z => by obtain ⟨_, _, zz⟩ := z; exact zz.elim)
        rintro _ _ ⟨v257, σ258, rfl, rfl, h⟩
        refine g_istore hX d_W_law_1448 (by decide) rfl ?_
        refine g_aload_n hX d_W_law_1450 rfl 4 rfl ?_
        have z := c_M_thrown (l := l) (D := D) (AC := AC) (lo := lo) (thr := fun _ _ => False) h
        rw [h1] at z
        refine g_callV (i := 324) (k := 8 * fuel) (n := 50 * fuel) hX z hdT_M_thrown hdO_M_thrown t_3 t_870 t_871 t_872 (lt_c (by decide)) h1 (lay_MO (AC := AC) (Γ := Γ)) rfl ⟨⟨by decide, by decide⟩, np_M_thrown⟩ ⟨Nat.le_of_ble_eq_true rfl, Nat.le_of_ble_eq_true rfl⟩ (Nat.le_of_ble_eq_true rfl) d_W_law_1451 rfl ?_ (fun _ _ z => by obtain ⟨_, _, zz⟩ := z; exact zz.elim)
        rintro _ _ ⟨v259, σ260, rfl, rfl, h⟩
        refine g_iload hX d_W_law_1454 1 rfl ?_
        refine g_icmp_eq (tgt := 1461) hX d_W_law_1456 (by decide) (fun q261 => ?_) (fun q261 => ?_)
        · have h := h.1 q261
          refine g_iload hX d_W_law_1461 1 rfl ?_
          refine g_if_ne (tgt := 1478) hX d_W_law_1463 (by decide) (fun q262 => ?_) (fun q262 => ?_)
          · have h := h.1 q262
            refine g_goto (tgt := 1592) hX d_W_law_1478 (by decide) ?_
            refine g_iinc (v := i + 7) hX d_W_law_1592 6 rfl (congrArg (i + ·) (by decide)) (by decide) rfl ?_
            refine g_goto (tgt := 23) hX d_W_law_1595 (by decide) ?_
            refine g_sub [3, 4, 5, 6, 0] rfl ?_
            refine g_less (k' := 8 * fuel) (n' := 50 * fuel) (by omega) (by omega) ?_
            exact ih Γ ((i + 7)) (σ260) h0 h1 h2 h
          · have h := h.2 q262
            refine g_aload_n hX d_W_law_1466 rfl 5 rfl ?_
            refine g_iconst (v := 0) hX d_W_law_1467 (by decide) ?_
            refine g_lald (i := 343) hX (lt_c (by decide)) h2 (lay_m18 (AC := AC) (Γ := Γ)) (by unfold vp_in; decide) d_W_law_1468 ?_
            refine g_iload hX d_W_law_1469 0 rfl ?_
            refine g_i2l hX d_W_law_1471 ?_
            refine g_lcmp hX d_W_law_1472 ?_
            refine g_if_eq (tgt := 1478) hX d_W_law_1473 (by decide) (fun q263 => ?_) (fun q263 => ?_)
            · have h := h.1 q263
              refine g_goto (tgt := 1592) hX d_W_law_1478 (by decide) ?_
              refine g_iinc (v := i + 7) hX d_W_law_1592 6 rfl (congrArg (i + ·) (by decide)) (by decide) rfl ?_
              refine g_goto (tgt := 23) hX d_W_law_1595 (by decide) ?_
              refine g_sub [3, 4, 5, 6, 0] rfl ?_
              refine g_less (k' := 8 * fuel) (n' := 50 * fuel) (by omega) (by omega) ?_
              exact ih Γ ((i + 7)) (σ260) h0 h1 h2 h
            · have h := h.2 q263
              refine g_iconst (v := 0) hX d_W_law_1476 (by decide) ?_
              exact h.elim
        · have h := h.2 q261
          refine g_iconst (v := 0) hX d_W_law_1459 (by decide) ?_
          exact h.elim
      · have h := h.2.2.2.2.2.2.2.2.2.2.2.2.2.2.2.2.2.2.2.1 hx
        refine g_tableIn (tgt := 1481) hX d_W_law_40 (by rw [hx]; decide) (by rw [hx]; decide) (by rw [hx]; rfl) (by decide) ?_
        refine g_aload_n hX d_W_law_1481 rfl 1 rfl ?_
        refine g_aload_n hX d_W_law_1482 rfl 0 rfl ?_
        refine g_iload hX d_W_law_1483 4 rfl ?_
        refine g_iconst (v := 1) hX d_W_law_1485 (by decide) ?_
        refine g_iadd hX d_W_law_1486 ?_
        obtain ⟨q264, h⟩ := h
        refine g_sld hX hs hbl q264 d_W_law_1487 ?_
        refine g_aload_n hX d_W_law_1488 rfl 3 rfl ?_
        refine g_less (k' := 8 * fuel + 1) (n' := 50 * fuel + 6) (by omega) (by omega) ?_
        have z := c_W_owed (l := l) (D := D) (AC := AC) (lo := lo) (thr := fun _ _ => False) hl h
        rw [h0, h2] at z
        refine g_callS (k := 8 * fuel) (n := 50 * fuel) hX z hdT_W_owed hdO_W_owed t_0 t_705 t_706 ⟨⟨by decide, by decide⟩, np_W_owed⟩ ⟨Nat.le_of_ble_eq_true rfl, Nat.le_of_ble_eq_true rfl⟩ (Nat.le_of_ble_eq_true rfl) d_W_law_1489 rfl ?_ (fun _ _ z => by obtain ⟨_, _, zz⟩ := z; exact zz.elim)
        rintro _ _ ⟨v265, σ266, rfl, rfl, h⟩
        refine g_istore hX d_W_law_1492 (by decide) rfl ?_
        refine g_aload_n hX d_W_law_1494 rfl 3 rfl ?_
        refine g_aload_n hX d_W_law_1495 rfl 1 rfl ?_
        refine g_iload hX d_W_law_1496 5 rfl ?_
        refine g_iconst (v := 1) hX d_W_law_1498 (by decide) ?_
        refine g_iadd hX d_W_law_1499 ?_
        obtain ⟨q267, h⟩ := h
        refine g_sld hX hs hbl q267 d_W_law_1500 ?_
        have z := c_M_owed (l := l) (D := D) (AC := AC) (lo := lo) (thr := fun _ _ => False) h
        rw [h1] at z
        refine g_callV (i := 324) (k := 8 * fuel) (n := 50 * fuel) hX z hdT_M_owed hdO_M_owed t_3 t_961 t_962 t_963 (lt_c (by decide)) h1 (lay_MO (AC := AC) (Γ := Γ)) rfl ⟨⟨by decide, by decide⟩, np_M_owed⟩ ⟨Nat.le_of_ble_eq_true rfl, Nat.le_of_ble_eq_true rfl⟩ (Nat.le_of_ble_eq_true rfl) d_W_law_1501 rfl ?_ (fun _ _ z => by obtain ⟨_, _, zz⟩ := z; exact zz.elim)
        rintro _ _ ⟨v268, σ269, rfl, rfl, h⟩
        refine g_lstore hX d_W_law_1504 (by decide) rfl ?_
        refine g_aload_n hX d_W_law_1506 rfl 4 rfl ?_
        have z := c_M_thrown (l := l) (D := D) (AC := AC) (lo := lo) (thr := fun _ _ => False) h
        rw [h1] at z
        refine g_callV (i := 324) (k := 8 * fuel) (n := 50 * fuel) hX z hdT_M_thrown hdO_M_thrown t_3 t_870 t_871 t_872 (lt_c (by decide)) h1 (lay_MO (AC := AC) (Γ := Γ)) rfl ⟨⟨by decide, by decide⟩, np_M_thrown⟩ ⟨Nat.le_of_ble_eq_true rfl, Nat.le_of_ble_eq_true rfl⟩ (Nat.le_of_ble_eq_true rfl) d_W_law_1507 rfl ?_ (fun _ _ z => by obtain ⟨_, _, zz⟩ := z; exact zz.elim)
        rintro _ _ ⟨v270, σ271, rfl, rfl, h⟩
        refine g_iload hX d_W_law_1510 1 rfl ?_
        refine g_icmp_eq (tgt := 1517) hX d_W_law_1512 (by decide) (fun q272 => ?_) (fun q272 => ?_)
        · have h := h.1 q272
          refine g_iload hX d_W_law_1517 1 rfl ?_
          refine g_if_ne (tgt := 1533) hX d_W_law_1519 (by decide) (fun q273 => ?_) (fun q273 => ?_)
          · have h := h.1 q273
            refine g_goto (tgt := 1592) hX d_W_law_1533 (by decide) ?_
            refine g_iinc (v := i + 7) hX d_W_law_1592 6 rfl (congrArg (i + ·) (by decide)) (by decide) rfl ?_
            refine g_goto (tgt := 23) hX d_W_law_1595 (by decide) ?_
            refine g_sub [3, 4, 5, 6, 0] rfl ?_
            refine g_less (k' := 8 * fuel) (n' := 50 * fuel) (by omega) (by omega) ?_
            exact ih Γ ((i + 7)) (σ271) h0 h1 h2 h
          · have h := h.2 q273
            refine g_aload_n hX d_W_law_1522 rfl 5 rfl ?_
            refine g_iconst (v := 0) hX d_W_law_1523 (by decide) ?_
            refine g_lald (i := 343) hX (lt_c (by decide)) h2 (lay_m18 (AC := AC) (Γ := Γ)) (by unfold vp_in; decide) d_W_law_1524 ?_
            refine g_lload hX d_W_law_1525 0 rfl ?_
            refine g_lcmp hX d_W_law_1527 ?_
            refine g_if_eq (tgt := 1533) hX d_W_law_1528 (by decide) (fun q274 => ?_) (fun q274 => ?_)
            · have h := h.1 q274
              refine g_goto (tgt := 1592) hX d_W_law_1533 (by decide) ?_
              refine g_iinc (v := i + 7) hX d_W_law_1592 6 rfl (congrArg (i + ·) (by decide)) (by decide) rfl ?_
              refine g_goto (tgt := 23) hX d_W_law_1595 (by decide) ?_
              refine g_sub [3, 4, 5, 6, 0] rfl ?_
              refine g_less (k' := 8 * fuel) (n' := 50 * fuel) (by omega) (by omega) ?_
              exact ih Γ ((i + 7)) (σ271) h0 h1 h2 h
            · have h := h.2 q274
              refine g_iconst (v := 0) hX d_W_law_1531 (by decide) ?_
              exact h.elim
        · have h := h.2 q272
          refine g_iconst (v := 0) hX d_W_law_1515 (by decide) ?_
          exact h.elim
      · have h := h.2.2.2.2.2.2.2.2.2.2.2.2.2.2.2.2.2.2.2.2 hx
        refine g_tableIn (tgt := 1536) hX d_W_law_40 (by rw [hx]; decide) (by rw [hx]; decide) (by rw [hx]; rfl) (by decide) ?_
        refine g_aload_n hX d_W_law_1536 rfl 1 rfl ?_
        refine g_aload_n hX d_W_law_1537 rfl 0 rfl ?_
        refine g_iload hX d_W_law_1538 4 rfl ?_
        refine g_iconst (v := 1) hX d_W_law_1540 (by decide) ?_
        refine g_iadd hX d_W_law_1541 ?_
        obtain ⟨q275, h⟩ := h
        refine g_sld hX hs hbl q275 d_W_law_1542 ?_
        refine g_aload_n hX d_W_law_1543 rfl 3 rfl ?_
        refine g_less (k' := 8 * fuel + 1) (n' := 50 * fuel + 6) (by omega) (by omega) ?_
        have z := c_W_state (l := l) (D := D) (AC := AC) (lo := lo) (thr := fun _ _ => False) hl h
        rw [h0, h2] at z
        refine g_callS (k := 8 * fuel) (n := 50 * fuel) hX z hdT_W_state hdO_W_state t_0 t_716 t_717 ⟨⟨by decide, by decide⟩, np_W_state⟩ ⟨Nat.le_of_ble_eq_true rfl, Nat.le_of_ble_eq_true rfl⟩ (Nat.le_of_ble_eq_true rfl) d_W_law_1544 rfl ?_ (fun _ _ z => by obtain ⟨_, _, zz⟩ := z; exact zz.elim)
        rintro _ _ ⟨v276, σ277, rfl, rfl, h⟩
        refine g_istore hX d_W_law_1547 (by decide) rfl ?_
        refine g_aload_n hX d_W_law_1549 rfl 3 rfl ?_
        refine g_aload_n hX d_W_law_1550 rfl 1 rfl ?_
        refine g_iload hX d_W_law_1551 5 rfl ?_
        refine g_iconst (v := 1) hX d_W_law_1553 (by decide) ?_
        refine g_iadd hX d_W_law_1554 ?_
        obtain ⟨q278, h⟩ := h
        refine g_sld hX hs hbl q278 d_W_law_1555 ?_
        have z := c_M_state (l := l) (D := D) (AC := AC) (lo := lo) (thr := fun _ _ => False) h
        rw [h1] at z
        refine g_callV (i := 324) (k := 8 * fuel) (n := 50 * fuel) hX z hdT_M_state hdO_M_state t_3 t_965 t_966 t_967 (lt_c (by decide)) h1 (lay_MO (AC := AC) (Γ := Γ)) rfl ⟨⟨by decide, by decide⟩, np_M_state⟩ ⟨Nat.le_of_ble_eq_true rfl, Nat.le_of_ble_eq_true rfl⟩ (Nat.le_of_ble_eq_true rfl) d_W_law_1556 rfl ?_ (fun _ _ z => by obtain ⟨_, _, zz⟩ := z; exact zz.elim)
        rintro _ _ ⟨v279, σ280, rfl, rfl, h⟩
        refine g_istore hX d_W_law_1559 (by decide) rfl ?_
        refine g_aload_n hX d_W_law_1561 rfl 4 rfl ?_
        have z := c_M_thrown (l := l) (D := D) (AC := AC) (lo := lo) (thr := fun _ _ => False) h
        rw [h1] at z
        refine g_callV (i := 324) (k := 8 * fuel) (n := 50 * fuel) hX z hdT_M_thrown hdO_M_thrown t_3 t_870 t_871 t_872 (lt_c (by decide)) h1 (lay_MO (AC := AC) (Γ := Γ)) rfl ⟨⟨by decide, by decide⟩, np_M_thrown⟩ ⟨Nat.le_of_ble_eq_true rfl, Nat.le_of_ble_eq_true rfl⟩ (Nat.le_of_ble_eq_true rfl) d_W_law_1562 rfl ?_ (fun _ _ z => by obtain ⟨_, _, zz⟩ := z; exact zz.elim)
        rintro _ _ ⟨v281, σ282, rfl, rfl, h⟩
        refine g_iload hX d_W_law_1565 1 rfl ?_
        refine g_icmp_eq (tgt := 1572) hX d_W_law_1567 (by decide) (fun q283 => ?_) (fun q283 => ?_)
        · have h := h.1 q283
          refine g_iload hX d_W_law_1572 1 rfl ?_
          refine g_if_ne (tgt := 1589) hX d_W_law_1574 (by decide) (fun q284 => ?_) (fun q284 => ?_)
          · have h := h.1 q284
            refine g_goto (tgt := 1592) hX d_W_law_1589 (by decide) ?_
            refine g_iinc (v := i + 7) hX d_W_law_1592 6 rfl (congrArg (i + ·) (by decide)) (by decide) rfl ?_
            refine g_goto (tgt := 23) hX d_W_law_1595 (by decide) ?_
            refine g_sub [3, 4, 5, 6, 0] rfl ?_
            refine g_less (k' := 8 * fuel) (n' := 50 * fuel) (by omega) (by omega) ?_
            exact ih Γ ((i + 7)) (σ282) h0 h1 h2 h
          · have h := h.2 q284
            refine g_aload_n hX d_W_law_1577 rfl 5 rfl ?_
            refine g_iconst (v := 0) hX d_W_law_1578 (by decide) ?_
            refine g_lald (i := 343) hX (lt_c (by decide)) h2 (lay_m18 (AC := AC) (Γ := Γ)) (by unfold vp_in; decide) d_W_law_1579 ?_
            refine g_iload hX d_W_law_1580 0 rfl ?_
            refine g_i2l hX d_W_law_1582 ?_
            refine g_lcmp hX d_W_law_1583 ?_
            refine g_if_eq (tgt := 1589) hX d_W_law_1584 (by decide) (fun q285 => ?_) (fun q285 => ?_)
            · have h := h.1 q285
              refine g_goto (tgt := 1592) hX d_W_law_1589 (by decide) ?_
              refine g_iinc (v := i + 7) hX d_W_law_1592 6 rfl (congrArg (i + ·) (by decide)) (by decide) rfl ?_
              refine g_goto (tgt := 23) hX d_W_law_1595 (by decide) ?_
              refine g_sub [3, 4, 5, 6, 0] rfl ?_
              refine g_less (k' := 8 * fuel) (n' := 50 * fuel) (by omega) (by omega) ?_
              exact ih Γ ((i + 7)) (σ282) h0 h1 h2 h
            · have h := h.2 q285
              refine g_iconst (v := 0) hX d_W_law_1587 (by decide) ?_
              exact h.elim
        · have h := h.2 q283
          refine g_iconst (v := 0) hX d_W_law_1570 (by decide) ?_
          exact h.elim
