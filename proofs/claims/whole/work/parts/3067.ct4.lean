-- one instruction of the check, as it is promised
section CT4
variable {n : Nat → Nat} {vs : Nat → Nat → Int64} {cb lo ν ν' ν0 : Nat → Int32} {t lcn p0 E q q' N : Nat} {G G' : ctG} {B B' : ctN} {g g' x : Int} {cur cur' c c' c2 : List Int} {gs : List gF} {f f2 f' : ckF} {r r' fs fs' : List ckF} {st st' : List (Nat × Option Nat)} {res w op : Int}
theorem wk_cases (h0 : 0 ≤ op) (h1 : op ≤ 255) (h : wk_sh op < 13) : op = 0 ∨ op = 1 ∨ (2 ≤ op ∧ op ≤ 4) ∨ op = 5 ∨ op = 11 ∨ op = 12 ∨ op = 13 ∨ op = 14 ∨ op = 15 ∨ op = 16 ∨ op = 17 ∨ op = 26 ∨ op = 27 ∨ (32 ≤ op ∧ op ≤ 34) ∨ (35 ≤ op ∧ op ≤ 36) ∨ (40 ≤ op ∧ op ≤ 64) ∨ (65 ≤ op ∧ op ≤ 68) ∨ (69 ≤ op ∧ op ≤ 191) := by
  unfold wk_sh at h
  (repeat' split at h) <;> omega
theorem wk_sh_m (h0 : 40 ≤ op) (h1 : op ≤ 64) : (op ≤ 62 → wk_sh op = 7) ∧ (63 ≤ op → wk_sh op = 8) := by
  unfold wk_sh
  rw [if_neg (by omega), if_neg (by omega), if_pos (by omega)]
  constructor
  · intro h
    rw [if_neg (by omega)]
  · intro h
    rw [if_pos (by omega)]
theorem wk_sh_n (h0 : 69 ≤ op) (h1 : op ≤ 191) : wk_sh op = 0 := by
  unfold wk_sh
  rw [if_pos h0, if_pos h1]
theorem wk_sh_l (h0 : 32 ≤ op) (h1 : op ≤ 36) : wk_sh op = 4 := by
  have : op = 32 ∨ op = 33 ∨ op = 34 ∨ op = 35 ∨ op = 36 := by omega
  rcases this with e | e | e | e | e <;> (rw [e]; decide)
theorem wk_sh_o (h0 : 2 ≤ op) (h1 : op ≤ 4) : wk_sh op = 1 := by
  have : op = 2 ∨ op = 3 ∨ op = 4 := by omega
  rcases this with e | e | e <;> (rw [e]; decide)
theorem ptl_ty {pa : Nat} : ∀ {P : Nat}, (∀ j : Nat, pa ≤ j → j < pa + P → 124 ≤ (cb j).toInt ∧ (cb j).toInt ≤ 127) → ∀ y ∈ ptl cb pa P, 124 ≤ y ∧ y ≤ 127
  | 0, _, y, hy => by cases hy
  | P + 1, h, y, hy => by
    rcases List.mem_cons.mp hy with e | e
    · rw [e]
      exact h (pa + P) (by omega) (by omega)
    · exact ptl_ty (fun j h1 h2 => h j h1 (by omega)) y e
theorem ty_ty (hL : xr_L 5 (mp0 N cb) (n 0) (vs 0)) {u : Nat} (hu : u < n 0 / 5) : ((vs 0 (5 * u + 4)).toInt = 64 ∨ 124 ≤ (vs 0 (5 * u + 4)).toInt ∧ (vs 0 (5 * u + 4)).toInt ≤ 127) ∧ ∀ pa P : Nat, (vs 0 (5 * u + 1)).toInt = pa → (vs 0 (5 * u + 2)).toInt = P → ∀ j : Nat, pa ≤ j → j < pa + P → 124 ≤ (cb j).toInt ∧ (cb j).toInt ≤ 127 := by
  obtain ⟨⟨h1, h2, h3, h4, h5, h6, h7, h8, h9, h10⟩, -⟩ := hL.at (by omega) hu
  dsimp only at h1 h2 h3 h4 h5 h6 h7 h8 h9 h10
  refine ⟨?_, fun pa P e1 e2 j g1 g2 => h10 j (by rw [e1]; omega) (by rw [e1, e2]; omega)⟩
  by_cases h : (vs 0 (5 * u + 3)).toInt = 0
  · exact .inl (h8 h)
  · exact .inr (h9 (by omega))
theorem lt_ty (hL : xr_L 5 (mp0 N cb) (n 0) (vs 0)) (ht : t < n 0 / 5) (hlo : ∀ j, j < lcn → 124 ≤ (lo j).toInt ∧ (lo j).toInt ≤ 127) {i pa P : Nat} (h1 : (vs 0 (5 * t + 1)).toInt = pa) (h2 : (vs 0 (5 * t + 2)).toInt = P) (hi : i < P + lcn) : 124 ≤ ck_lt cb lo pa P i ∧ ck_lt cb lo pa P i ≤ 127 := by
  unfold ck_lt
  split
  · exact (ty_ty hL ht).2 pa P h1 h2 (pa + i) (by omega) (by omega)
  · exact hlo _ (by omega)
theorem ct_FM.lab (hres : res = 64 ∨ 124 ≤ res ∧ res ≤ 127) : ∀ {fs : List ckF} {st : List (Nat × Option Nat)}, ct_FM cb ν p0 res G fs st → ∀ y ∈ fs, (fl_ y = 64 ∨ 124 ≤ fl_ y ∧ fl_ y ≤ 127) ∧ (fe y = 64 ∨ 124 ≤ fe y ∧ fe y ≤ 127)
  | [], _, h, _, _ => h.elim
  | b :: [], _, h, y, hy => by
    rw [List.mem_singleton] at hy
    subst hy
    rw [h.2.2.2.1, h.2.2.2.2.1]
    exact ⟨hres, hres⟩
  | f :: f2 :: r, st, h, y, hy => by
    obtain ⟨o, x, st', e, h1, h2⟩ := h
    rcases List.mem_cons.mp hy with e | e
    · rw [e]
      refine ⟨?_, h1.1.2.2.2.1⟩
      rcases h1.2.2.2 with ⟨-, -, -, d⟩ | ⟨e, -, -, -, -, -, d, -⟩
      · rw [d]
        split
        · exact .inl rfl
        · exact h1.1.2.2.2.1
      · rw [d]
        exact h1.1.2.2.2.1
    · exact h2.lab hres y e
theorem sg_ty : ∀ i, i < 30 → (124 ≤ SG (4 * i + 2) ∧ SG (4 * i + 2) ≤ 127) ∧ (124 ≤ SG (4 * i + 3) ∧ SG (4 * i + 3) ≤ 127) := by decide +kernel
theorem mt_ty : ∀ i, i < 23 → 124 ≤ MT i ∧ MT i ≤ 127 := by decide +kernel
set_option maxHeartbeats 4000000 in
theorem ct_stepW (hby : ∀ j, -128 ≤ (cb j).toInt ∧ (cb j).toInt ≤ 127) (hL : xr_L 5 (mp0 N cb) (n 0) (vs 0)) (ht : t < n 0 / 5) (hlo : ∀ j, j < lcn → 124 ≤ (lo j).toInt ∧ (lo j).toInt ≤ 127)
    (hv : ∀ i : Nat, i < n 5 / 4 → 124 ≤ (vs 5 (4 * i + 1)).toInt ∧ (vs 5 (4 * i + 1)).toInt ≤ 127) (hfn : ∀ i : Nat, i < n 2 / 2 → (vs 2 (2 * i + 1)).toInt < (n 0 / 5 : Nat))
    (hI : ct_I n vs cb lo t lcn p0 E ν0 G ν q cur f r st g) (h0 : G 0 p0 [] []) (hop : (cb q).toInt % 256 = op) (hs : ck_st n vs cb lo t lcn (if op = 5 then fv f else lvb f) q op cur f r ν g cur' fs' ν' g') :
    (fs' = [] ∧ q + 1 = E ∧ wk_sh op = 3 ∧ ct_ZG n vs cb lo t lcn p0 E ν0 ν' g' G) ∨ ∃ (f' : ckF) (r' : List ckF) (G' : ctG) (st' : List (Nat × Option Nat)) (q' : Nat), fs' = f' :: r' ∧ ct_I n vs cb lo t lcn p0 E ν0 G' ν' q' cur' f' r' st' g' ∧ G' 0 p0 [] [] ∧ (∀ a c s, G' 0 a c s → G 0 a c s ∨ a = q' ∨ (a = q ∧ (cb q).toInt = 11 ∧ s = gl (f :: r))) ∧ q < q' ∧ (wk_sh op = 0 ∨ wk_sh op = 2 ∨ wk_sh op = 3 → q' = q + 1) ∧ (wk_sh op = 1 → q' = q + 2) ∧ (4 ≤ wk_sh op → (ν' q).toInt = q') := by
  obtain ⟨⟨a1, a2, a3, a4⟩, a5, a6, a7, a8, a9, a10, m, a11⟩ := id hI
  have hbq := hby q
  have hres := (ty_ty hL ht).1
  have hlab := a4.lab hres
  have hres0 : (vs 0 (5 * t + 4)).toInt ≠ 0 := by omega
  cases m with
  | zero => exact a11.elim
  | succ m =>
  unfold wk at a11
  rw [hop] at a11
  obtain ⟨w0, w1, w2, w3, w4, w5⟩ := a11
  have hsh : wk_sh op < 13 := by
    by_cases h : 4 ≤ wk_sh op
    · obtain ⟨q', -, u, -⟩ := w5 h
      exact u.2.2.2
    · omega
  obtain ⟨K0, K1, K2, K3, K4, K5, K6, K7, K8, K9, K10, K11, K12, K13, K14, K15, K16, K17⟩ := hs
  have e9 := a9 q (Nat.le_refl q)
  have e91 := a9 (q + 1) (by omega)
  -- what stands behind an instruction with numbers
  have far : 4 ≤ wk_sh op → ∃ q', (ν q).toInt = (q' : Nat) ∧ wk_op ν0 (wk_sh op) q q' ∧ q + 2 ≤ q' ∧ ∃ m, wk cb ν0 E m q' st := fun h => by
    obtain ⟨q', u1, u2, u3, u4⟩ := w5 h
    exact ⟨q', by rw [e9]; exact u1, u2, u2.1, m, u4⟩
  have up1 : ∀ w : Int32, ∀ j, j ≠ q + 1 → va_up ν (q + 1) w j = ν j := fun w j hj => by rw [xh_up, if_neg hj]
  rcases wk_cases (by omega) (by omega) hsh with h | h | h | h | h | h | h | h | h | h | h | h | h | h | h | h | h | h
  · have KK := K0 h
    clear K0 K1 K2 K3 K4 K5 K6 K7 K8 K9 K10 K11 K12 K13 K14 K15 K16 K17
    obtain ⟨e1, e2, e3, e4⟩ := KK
    subst e1 e2 e3 e4
    have sh : wk_sh op = 0 := by rw [h]; rfl
    refine .inr ⟨_, _, G, st, q + 1, rfl, ct_dead hI (fun j _ => rfl) (fun j _ => rfl) (by omega) ⟨m, w1 sh⟩ (fun _ => LC_no (by omega)), h0, (fun _ _ _ h => .inl h), by omega, fun _ => rfl, fun _ => by omega, fun _ => by omega⟩
  · have KK := K1 h
    clear K0 K1 K2 K3 K4 K5 K6 K7 K8 K9 K10 K11 K12 K13 K14 K15 K16 K17
    obtain ⟨e1, e2, e3, e4⟩ := KK
    subst e1 e2 e3 e4
    have sh : wk_sh op = 0 := by rw [h]; rfl
    obtain ⟨G', ⟨hG, hN⟩, hI'⟩ := ct_simple hI (fun j _ => rfl) (fun j _ => rfl) (show q < q + 1 by omega) (Int.le_refl g') (a5.mono (by omega)) ⟨m, w1 sh⟩ (fun G' _ h9 hl => LC_0 (by omega) h9)
    exact .inr ⟨_, _, G', st, q + 1, rfl, hI', hG _ _ _ _ h0, hN, by omega, fun _ => rfl, fun _ => by omega, fun _ => by omega⟩
  · have KK := K2 h.1 h.2
    clear K0 K1 K2 K3 K4 K5 K6 K7 K8 K9 K10 K11 K12 K13 K14 K15 K16 K17
    obtain ⟨w, k1, k2, k3, k4, k5, k6⟩ := KK
    have sh : wk_sh op = 1 := wk_sh_o h.1 h.2
    obtain ⟨u1, u2, u3, u4⟩ := w2 sh
    rw [if_neg (show ¬ op = 5 by omega)] at k4
    have hT : ct_T p0 q f cur' g := by
      by_cases h4 : op = 4
      · obtain ⟨r3, k2⟩ := k2 h4
        exact (a5.tk k2).1
      · rw [k1 h4]
        exact a5
    obtain ⟨G', ⟨hG, hN⟩, hI'⟩ := ct_open (op := op) hI (by omega) hop (by omega) hT (fun hl => ⟨fun h4 => (k1 h4).symm, fun h4 => by
      obtain ⟨r3, k2⟩ := k2 h4
      exact (a5.tk k2).2.1 hl (by decide)⟩) k3 u3 u2 ⟨m, u4⟩
    subst k4 k5 k6
    exact .inr ⟨_, _, G', _, q + 2, rfl, hI', hG _ _ _ _ h0, hN, by omega, fun _ => by omega, fun _ => rfl, fun _ => by omega⟩
  · have KK := K3 h
    clear K0 K1 K2 K3 K4 K5 K6 K7 K8 K9 K10 K11 K12 K13 K14 K15 K16 K17
    obtain ⟨⟨r3, k1⟩, k2, k3, k4, k5⟩ := KK
    have sh : wk_sh op = 2 := by rw [h]; rfl
    obtain ⟨o, st', u1, u2, u3, u4⟩ := w3 sh
    subst u1
    rw [if_pos h] at k3
    obtain ⟨G', ⟨hG, hN⟩, hI'⟩ := ct_else hI (by omega) (by rw [u2]; rfl) u3 k1 ⟨m, u4⟩
    subst k2 k3 k4 k5
    exact .inr ⟨_, _, G', _, q + 1, rfl, hI', hG _ _ _ _ h0, hN, by omega, fun _ => rfl, fun _ => by omega, fun _ => by omega⟩
  · have KK := K4 h
    clear K0 K1 K2 K3 K4 K5 K6 K7 K8 K9 K10 K11 K12 K13 K14 K15 K16 K17
    obtain ⟨⟨r3, k1⟩, k2, k3, k4, k5⟩ := KK
    have sh : wk_sh op = 3 := by rw [h]; rfl
    obtain ⟨u1, u2, u3⟩ := w4 sh
    subst k4 k5
    cases st with
    | nil =>
      obtain ⟨v1, v2⟩ := u1 rfl
      obtain ⟨e1, e2⟩ := ct_fin hI h0 (by omega) v1 v2 hres0 k1 k3
      exact .inl ⟨e1, v2, sh, e2⟩
    | cons y st =>
      obtain ⟨o, x⟩ := y
      have hw : ν0 q = 0 ∧ ∃ m, wk cb ν0 E m (q + 1) st := by
        cases x with
        | none => exact ⟨(u2 o st rfl).2.1, m, (u2 o st rfl).2.2⟩
        | some e => exact ⟨(u3 o e st rfl).2.1, m, (u3 o e st rfl).2.2⟩
      obtain ⟨f2, r2, G', e1, ⟨hG, hN⟩, hI'⟩ := ct_end hI (by omega) ⟨fun e => by subst e; exact (u2 o st rfl).1, fun e he => by subst he; exact (u3 o e st rfl).1⟩ hw.1 k1 k2 k3 hw.2
      exact .inr ⟨f2, r2, G', st, q + 1, e1, hI', hG _ _ _ _ h0, hN, by omega, fun _ => rfl, fun _ => by omega, fun _ => by omega⟩
  · have KK := K5 h
    clear K0 K1 K2 K3 K4 K5 K6 K7 K8 K9 K10 K11 K12 K13 K14 K15 K16 K17
    obtain ⟨i, f', w, r2, c2, k1, k2, k3, k4, k5, k6, k7, k8⟩ := KK
    have sh : wk_sh op = 4 := by rw [h]; rfl
    obtain ⟨q', v1, v2, v3, v4⟩ := far (by omega)
    subst k5 k6 k7 k8
    have hlf := (hlab f' (List.mem_of_getElem? k2)).1
    refine .inr ⟨_, _, G, st, q', rfl, ct_dead hI (fun j hj => up1 w j (by omega)) (fun j hj => up1 w j (by omega)) (by omega) v4 (fun hl => LC_5 (by omega) ⟨i, fa f', by rw [← e91]; exact k1, ⟨by omega, by omega, by rw [xh_up, if_pos rfl]; exact k3⟩, ct_brOf a5 a4 a2 hl k2 (by omega) k4 (fun _ _ _ _ h => h) (fun j _ hj => up1 w j (by omega)) (by omega)⟩), h0, (fun _ _ _ h => .inl h), by omega, fun _ => by omega, fun _ => by omega, fun _ => by rw [up1 w q (by omega)]; exact v1⟩
  · have KK := K6 h
    clear K0 K1 K2 K3 K4 K5 K6 K7 K8 K9 K10 K11 K12 K13 K14 K15 K16 K17
    obtain ⟨i, f', w, c1, c2, r1, r2, k1, k2, k3, k4, k5, k6, k7, k8⟩ := KK
    have sh : wk_sh op = 4 := by rw [h]; rfl
    obtain ⟨q', v1, v2, v3, v4⟩ := far (by omega)
    have hlf := (hlab f' (List.mem_of_getElem? k2)).1
    obtain ⟨T1, y1, -⟩ := a5.tk k4
    obtain ⟨T2, y2, -⟩ := T1.tk k5
    obtain ⟨T3, y3, y4⟩ := T2.pt (q' := q') k6 (by omega) (by omega)
    subst k7 k8
    obtain ⟨G', ⟨hG, hN⟩, hI'⟩ := ct_simple hI (fun j hj => up1 w j (by omega)) (fun j hj => up1 w j (by omega)) (show q < q' by omega) y4 T3 v4 (fun G' hG h9 hl => LC_6 (by omega) ⟨i, fa f', c1, q', by rw [← e91]; exact k1, ⟨by omega, by omega, by rw [xh_up, if_pos rfl]; exact k3⟩, y1 hl (by decide), ct_brOf T1 a4 a2 hl k2 (by omega) k5 hG (fun j _ hj => up1 w j (by omega)) (by omega), ⟨a1, by omega, by rw [up1 w q (by omega)]; exact v1⟩, by rw [y2 hl (by omega), ← y3]; exact h9⟩)
    exact .inr ⟨_, _, G', st, q', rfl, hI', hG _ _ _ _ h0, hN, by omega, fun _ => by omega, fun _ => by omega, fun _ => by rw [up1 w q (by omega)]; exact v1⟩
  · have KK := K7 h
    clear K0 K1 K2 K3 K4 K5 K6 K7 K8 K9 K10 K11 K12 K13 K14 K15 K16 K17
    obtain ⟨L, lab, c1, c2, r1, r2, k1, k2, k3, k4, k5, k6, k7, k8⟩ := KK
    have sh : wk_sh op = 5 := by rw [h]; rfl
    obtain ⟨q', v1, v2, v3, v4⟩ := far (by omega)
    have v5 := v2.2.1 sh
    rw [← e91, k1] at v5
    obtain ⟨T1, y1, -⟩ := a5.tk k4
    subst k6 k7 k8
    refine .inr ⟨_, _, G, st, q', rfl, ct_dead hI (fun j hj => k2 j (by omega)) (fun j hj => k2 j (by omega)) (by omega) v4 (fun hl => LC_7 (by omega) ⟨L, c1, by rw [← e91]; exact k1, ⟨by omega, by omega, by rw [k2 (q + 1) (by omega)]; exact k1⟩, y1 hl (by decide), fun k hk => ?_⟩), h0, (fun _ _ _ h => .inl h), by omega, fun _ => by omega, fun _ => by omega, fun _ => by rw [k2 q (by omega)]; exact v1⟩
    obtain ⟨i, f', z1, z2, z3, z4⟩ := k3 k hk
    have hlf := (hlab f' (List.mem_of_getElem? z2)).1
    exact ⟨i, fa f', by rw [← a9 (q + 2 + k) (by omega)]; exact z1, ⟨by omega, by omega, z3⟩, ct_brOf T1 a4 a2 hl z2 (by omega) (by rw [z4]; exact k5) (fun _ _ _ _ h => h) (fun j _ hj => k2 j (by omega)) (by omega)⟩
  · have KK := K8 h
    clear K0 K1 K2 K3 K4 K5 K6 K7 K8 K9 K10 K11 K12 K13 K14 K15 K16 K17
    obtain ⟨⟨r2, c2, k1⟩, k2, k3, k4, k5⟩ := KK
    have sh : wk_sh op = 0 := by rw [h]; rfl
    obtain ⟨T1, y1, -⟩ := a5.tk k1
    subst k2 k3 k4 k5
    exact .inr ⟨_, _, G, st, q + 1, rfl, ct_dead hI (fun j _ => rfl) (fun j _ => rfl) (by omega) ⟨m, w1 sh⟩ (fun hl => LC_8 (by omega) ⟨c2, y1 hl hres0⟩), h0, (fun _ _ _ h => .inl h), by omega, fun _ => rfl, fun _ => by omega, fun _ => by omega⟩
  · have KK := K9 h
    clear K0 K1 K2 K3 K4 K5 K6 K7 K8 K9 K10 K11 K12 K13 K14 K15 K16 K17
    obtain ⟨i, u, pa, P, c1, k1, k2, k3, k4, k5, k6, k7, k8, k9⟩ := KK
    have sh : wk_sh op = 4 := by rw [h]; rfl
    obtain ⟨q', v1, v2, v3, v4⟩ := far (by omega)
    have hu := hfn i k2
    rw [k3] at hu
    obtain ⟨z1, z2⟩ := ty_ty hL (u := u) (by omega)
    obtain ⟨T1, y1⟩ := a5.tkl (ptl_ty (z2 pa P k4 k5)) k6
    obtain ⟨T3, y3, y4⟩ := T1.pt (q' := q') k7 (by omega) (by omega)
    subst k8 k9
    obtain ⟨G', ⟨hG, hN⟩, hI'⟩ := ct_simple hI (fun j hj => rfl) (fun j hj => rfl) (show q < q' by omega) y4 T3 v4 (fun G' hG h9 hl => LC_9 (by omega) ⟨i, u, pa, P, q', c1, by rw [← e91]; exact k1, ⟨by omega, by omega, k1⟩, k2, k3, k4, k5, y1 hl, ⟨a1, by omega, v1⟩, by rw [← y3]; exact h9⟩)
    exact .inr ⟨_, _, G', st, q', rfl, hI', hG _ _ _ _ h0, hN, by omega, fun _ => by omega, fun _ => by omega, fun _ => v1⟩
  · have KK := K10 h
    clear K0 K1 K2 K3 K4 K5 K6 K7 K8 K9 K10 K11 K12 K13 K14 K15 K16 K17
    obtain ⟨u, pa, P, c0, c1, r0, k0, k1, k2, k4, k5, k6, k6', k7, k8, k9⟩ := KK
    have sh : wk_sh op = 6 := by rw [h]; rfl
    obtain ⟨q', v1, v2, v3, v4⟩ := far (by omega)
    obtain ⟨z1, z2⟩ := ty_ty hL k2
    obtain ⟨T0, y0, -⟩ := a5.tk k6
    obtain ⟨T1, y1⟩ := T0.tkl (ptl_ty (z2 pa P k4 k5)) k6'
    obtain ⟨T3, y3, y4⟩ := T1.pt (q' := q') k7 (by omega) (by omega)
    subst k8 k9
    obtain ⟨G', ⟨hG, hN⟩, hI'⟩ := ct_simple hI (fun j hj => rfl) (fun j hj => rfl) (show q < q' by omega) y4 T3 v4 (fun G' hG h9 hl => LC_10 (by omega) ⟨u, pa, P, q', c1, k0, by rw [← e91]; exact k1, ⟨by omega, by omega, k1⟩, k2, k4, k5, by rw [y0 hl (by decide), y1 hl]; rfl, ⟨a1, by omega, v1⟩, by rw [← y3]; exact h9⟩)
    exact .inr ⟨_, _, G', st, q', rfl, hI', hG _ _ _ _ h0, hN, by omega, fun _ => by omega, fun _ => by omega, fun _ => v1⟩
  · have KK := K11 h
    clear K0 K1 K2 K3 K4 K5 K6 K7 K8 K9 K10 K11 K12 K13 K14 K15 K16 K17
    obtain ⟨⟨r1, k1⟩, k2, k3, k4⟩ := KK
    have sh : wk_sh op = 0 := by rw [h]; rfl
    obtain ⟨T1, -, y1, -⟩ := a5.tk k1
    subst k2 k3 k4
    obtain ⟨G', ⟨hG, hN⟩, hI'⟩ := ct_simple hI (fun j _ => rfl) (fun j _ => rfl) (show q < q + 1 by omega) (Int.le_refl g') (T1.mono (by omega)) ⟨m, w1 sh⟩ (fun G' _ h9 hl => LC_11 (by omega) ⟨r1, cur', y1 hl rfl, h9⟩)
    exact .inr ⟨_, _, G', st, q + 1, rfl, hI', hG _ _ _ _ h0, hN, by omega, fun _ => rfl, fun _ => by omega, fun _ => by omega⟩
  · have KK := K12 h
    clear K0 K1 K2 K3 K4 K5 K6 K7 K8 K9 K10 K11 K12 K13 K14 K15 K16 K17
    obtain ⟨c1, c2, c3, r3, r5, r7, k1, k2, k3, k4, k5, k6⟩ := KK
    have sh : wk_sh op = 0 := by rw [h]; rfl
    obtain ⟨T1, y1, -⟩ := a5.tk k1
    obtain ⟨T2, -, y2, y2'⟩ := T1.tk k2
    have t5 := k2.ty (by decide) T1.1
    have h5 : r5 = 0 ∨ 124 ≤ r5 ∧ r5 ≤ 127 := t5.1
    obtain ⟨T3, y3, -, y3'⟩ := T2.tk k3
    have t7 := k3.ty (by omega) T2.1
    have h7 : r7 = 0 ∨ 124 ≤ r7 ∧ r7 ≤ 127 := t7.1
    have hx : (if r5 = 0 then r7 else r5) = 64 ∨ (124 ≤ (if r5 = 0 then r7 else r5) ∧ (if r5 = 0 then r7 else r5) ≤ 127) ∨ ((if r5 = 0 then r7 else r5) = 0 ∧ ¬ lvf f) := by
      split
      · rename_i h9
        by_cases hl : lvf f
        · have := y2' (by decide) hl
          omega
        · rcases h7 with h8 | h8
          · exact .inr (.inr ⟨h8, hl⟩)
          · exact .inr (.inl h8)
      · exact .inr (.inl (by omega))
    obtain ⟨T4, y4, y5⟩ := T3.pt (q' := q + 1) k4 hx (by omega)
    subst k5 k6
    have z1 : lvf f → cur = 127 :: r5 :: r5 :: c3 := fun hl => by
      have l5 := y2' (by decide) hl
      rw [y1 hl (by decide), y2 hl rfl, y3 hl (by omega), tp_ne (x := r5) (by omega)]
      rfl
    have z2 : lvf f → cur' = r5 :: c3 := fun hl => by
      have l5 := y2' (by decide) hl
      rw [if_neg (by omega), tp_ne (by omega)] at y4
      exact y4
    obtain ⟨G', ⟨hG, hN⟩, hI'⟩ := ct_simple hI (fun j _ => rfl) (fun j _ => rfl) (show q < q + 1 by omega) y5 T4 ⟨m, w1 sh⟩ (fun G' _ h9 hl => LC_12 (by omega) ⟨r5, c3, z1 hl, by rw [← z2 hl]; exact h9⟩)
    exact .inr ⟨_, _, G', st, q + 1, rfl, hI', hG _ _ _ _ h0, hN, by omega, fun _ => rfl, fun _ => by omega, fun _ => by omega⟩
  · have KK := K13 h.1 h.2
    clear K0 K1 K2 K3 K4 K5 K6 K7 K8 K9 K10 K11 K12 K13 K14 K15 K16 K17
    obtain ⟨i, pa, P, k1, k2, k3, k4, k5, k6, k7, k8, k9⟩ := KK
    have sh : wk_sh op = 4 := wk_sh_l h.1 (by omega)
    obtain ⟨q', v1, v2, v3, v4⟩ := far (by omega)
    have lt := lt_ty hL ht hlo k2 k3 k4
    subst k8 k9
    have key : ∃ G' : ctG, ((∀ k a c s, G k a c s → G' k a c s) ∧ ∀ a c s, G' 0 a c s → G 0 a c s ∨ a = q' ∨ (a = q ∧ (cb q).toInt = 11 ∧ s = gl (f :: r))) ∧ ct_I n vs cb lo t lcn p0 E ν0 G' ν' q' cur' f r st g' := by
      have : op = 32 ∨ op = 33 ∨ op = 34 := by omega
      rcases this with e | e | e
      · obtain ⟨T3, y3, y4⟩ := a5.pt (q' := q') (k5 e) (by omega) (by omega)
        refine ct_simple hI (fun j hj => rfl) (fun j hj => rfl) (show q < q' by omega) y4 T3 v4 (fun G' hG h9 hl => LC_13 (by omega) (by omega) ⟨i, pa, P, q', by rw [← e91]; exact k1, ⟨by omega, by omega, k1⟩, k2, k3, k4, ⟨a1, by omega, v1⟩, fun _ => ?_, fun _ => by omega, fun _ => by omega⟩)
        rw [tp_ne (by omega)] at y3
        rw [y3] at h9
        exact h9
      · obtain ⟨e5, r1, k6⟩ := k6 e
        obtain ⟨T1, y1, -⟩ := a5.tk k6
        subst e5
        refine ct_simple hI (fun j hj => rfl) (fun j hj => rfl) (show q < q' by omega) (Int.le_refl _) (T1.mono (by omega)) v4 (fun G' hG h9 hl => LC_13 (by omega) (by omega) ⟨i, pa, P, q', by rw [← e91]; exact k1, ⟨by omega, by omega, k1⟩, k2, k3, k4, ⟨a1, by omega, v1⟩, fun _ => by omega, fun _ => ⟨cur', ?_, h9⟩, fun _ => by omega⟩)
        rw [y1 hl (by omega), tp_ne (by omega)]
        rfl
      · obtain ⟨r1, c1, k7, k8⟩ := k7 e
        obtain ⟨T1, y1, -⟩ := a5.tk k7
        obtain ⟨T3, y3, y4⟩ := T1.pt (q' := q') k8 (by omega) (by omega)
        refine ct_simple hI (fun j hj => rfl) (fun j hj => rfl) (show q < q' by omega) y4 T3 v4 (fun G' hG h9 hl => LC_13 (by omega) (by omega) ⟨i, pa, P, q', by rw [← e91]; exact k1, ⟨by omega, by omega, k1⟩, k2, k3, k4, ⟨a1, by omega, v1⟩, fun _ => by omega, fun _ => by omega, fun _ => ⟨c1, ?_, ?_⟩⟩)
        · rw [y1 hl (by omega), tp_ne (by omega)]
          rfl
        · rw [y1 hl (by omega), ← y3]
          exact h9
    obtain ⟨G', ⟨hG, hN⟩, hI'⟩ := key
    exact .inr ⟨_, _, G', st, q', rfl, hI', hG _ _ _ _ h0, hN, by omega, fun _ => by omega, fun _ => by omega, fun _ => v1⟩
  · have KK := K14 h.1 h.2
    clear K0 K1 K2 K3 K4 K5 K6 K7 K8 K9 K10 K11 K12 K13 K14 K15 K16 K17
    obtain ⟨i, k1, k2, k3, k4, k5, k6⟩ := KK
    have sh : wk_sh op = 4 := wk_sh_l (by omega) h.2
    obtain ⟨q', v1, v2, v3, v4⟩ := far (by omega)
    have lt := hv i k2
    subst k5 k6
    have key : ∃ G' : ctG, ((∀ k a c s, G k a c s → G' k a c s) ∧ ∀ a c s, G' 0 a c s → G 0 a c s ∨ a = q' ∨ (a = q ∧ (cb q).toInt = 11 ∧ s = gl (f :: r))) ∧ ct_I n vs cb lo t lcn p0 E ν0 G' ν' q' cur' f r st g' := by
      have : op = 35 ∨ op = 36 := by omega
      rcases this with e | e
      · obtain ⟨T3, y3, y4⟩ := a5.pt (q' := q') (k3 e) (by omega) (by omega)
        refine ct_simple hI (fun j hj => rfl) (fun j hj => rfl) (show q < q' by omega) y4 T3 v4 (fun G' hG h9 hl => LC_14 (by omega) (by omega) ⟨i, q', by rw [← e91]; exact k1, ⟨by omega, by omega, k1⟩, k2, ⟨a1, by omega, v1⟩, fun _ => ?_, fun _ => by omega⟩)
        rw [tp_ne (by omega)] at y3
        rw [y3] at h9
        exact h9
      · obtain ⟨e4, e5, r1, k6⟩ := k4 e
        obtain ⟨T1, y1, -⟩ := a5.tk k6
        subst e5
        refine ct_simple hI (fun j hj => rfl) (fun j hj => rfl) (show q < q' by omega) (Int.le_refl _) (T1.mono (by omega)) v4 (fun G' hG h9 hl => LC_14 (by omega) (by omega) ⟨i, q', by rw [← e91]; exact k1, ⟨by omega, by omega, k1⟩, k2, ⟨a1, by omega, v1⟩, fun _ => by omega, fun _ => ⟨e4, cur', ?_, h9⟩⟩)
        rw [y1 hl (by omega), tp_ne (by omega)]
        rfl
    obtain ⟨G', ⟨hG, hN⟩, hI'⟩ := key
    exact .inr ⟨_, _, G', st, q', rfl, hI', hG _ _ _ _ h0, hN, by omega, fun _ => by omega, fun _ => by omega, fun _ => v1⟩
  · have KK := K15 h.1 h.2
    clear K0 K1 K2 K3 K4 K5 K6 K7 K8 K9 K10 K11 K12 K13 K14 K15 K16 K17
    obtain ⟨k0, k1, k2, k3, k4, k5, k6⟩ := KK
    obtain ⟨s1, s2⟩ := wk_sh_m h.1 h.2
    have sh : 4 ≤ wk_sh op := by
      by_cases h9 : op ≤ 62
      · rw [s1 h9]; omega
      · rw [s2 (by omega)]; omega
    obtain ⟨q', v1, v2, v3, v4⟩ := far sh
    have v5 : op < 63 → q + 3 ≤ q' := fun h9 => v2.2.2.1 (by have := s1 (by omega); omega)
    have mt := mt_ty (op - 40).toNat
    subst k5 k6
    have nsh : wk_sh op = 7 ∨ wk_sh op = 8 := by
      by_cases h9 : op ≤ 62
      · exact .inl (s1 h9)
      · exact .inr (s2 (by omega))
    have key : ∃ G' : ctG, ((∀ k a c s, G k a c s → G' k a c s) ∧ ∀ a c s, G' 0 a c s → G 0 a c s ∨ a = q' ∨ (a = q ∧ (cb q).toInt = 11 ∧ s = gl (f :: r))) ∧ ct_I n vs cb lo t lcn p0 E ν0 G' ν' q' cur' f r st g' := by
      have : op = 63 ∨ op = 64 ∨ op < 54 ∨ (54 ≤ op ∧ op < 63) := by omega
      rcases this with e | e | e | e
      · obtain ⟨T3, y3, y4⟩ := a5.pt (q' := q') (k1 e) (by omega) (by omega)
        refine ct_simple hI (fun j hj => rfl) (fun j hj => rfl) (show q < q' by omega) y4 T3 v4 (fun G' hG h9 hl => LC_15 (by omega) (by omega) ⟨k0, q', ⟨a1, by omega, v1⟩, v3, by omega, fun _ => ?_, fun _ => by omega, fun _ => by omega, fun _ => by omega⟩)
        rw [tp_ne (by omega)] at y3
        rw [y3] at h9
        exact h9
      · obtain ⟨r1, c1, z1, z2⟩ := k2 e
        obtain ⟨T1, y1, -⟩ := a5.tk z1
        obtain ⟨T3, y3, y4⟩ := T1.pt (q' := q') z2 (by omega) (by omega)
        refine ct_simple hI (fun j hj => rfl) (fun j hj => rfl) (show q < q' by omega) y4 T3 v4 (fun G' hG h9 hl => LC_15 (by omega) (by omega) ⟨k0, q', ⟨a1, by omega, v1⟩, v3, by omega, fun _ => by omega, fun _ => ⟨c1, y1 hl (by decide), ?_⟩, fun _ => by omega, fun _ => by omega⟩)
        rw [y1 hl (by decide), ← y3]
        exact h9
      · obtain ⟨r1, c1, z1, z2⟩ := k3 e
        have mt := mt (by omega)
        obtain ⟨T1, y1, -⟩ := a5.tk z1
        obtain ⟨T3, y3, y4⟩ := T1.pt (q' := q') z2 (by omega) (by omega)
        refine ct_simple hI (fun j hj => rfl) (fun j hj => rfl) (show q < q' by omega) y4 T3 v4 (fun G' hG h9 hl => LC_15 (by omega) (by omega) ⟨k0, q', ⟨a1, by omega, v1⟩, v3, fun h9 => v5 (by omega), fun _ => by omega, fun _ => by omega, fun _ => ⟨c1, y1 hl (by decide), ?_⟩, fun _ => by omega⟩)
        rw [tp_ne (by omega)] at y3
        rw [y3] at h9
        rw [hop]
        exact h9
      · obtain ⟨e5, r1, r2, c1, z1, z2⟩ := k4 e.1 e.2
        have mt := mt (by omega)
        obtain ⟨T1, y1, -⟩ := a5.tk z1
        obtain ⟨T2, y2, -⟩ := T1.tk z2
        subst e5
        refine ct_simple hI (fun j hj => rfl) (fun j hj => rfl) (show q < q' by omega) (Int.le_refl _) (T2.mono (by omega)) v4 (fun G' hG h9 hl => LC_15 (by omega) (by omega) ⟨k0, q', ⟨a1, by omega, v1⟩, v3, fun h9 => v5 (by omega), fun _ => by omega, fun _ => by omega, fun _ => by omega, fun _ _ => ⟨cur', ?_, h9⟩⟩)
        rw [hop, y1 hl (by omega), y2 hl (by decide), tp_ne (by omega)]
        rfl
    obtain ⟨G', ⟨hG, hN⟩, hI'⟩ := key
    exact .inr ⟨_, _, G', st, q', rfl, hI', hG _ _ _ _ h0, hN, by omega, fun _ => by omega, fun _ => by omega, fun _ => v1⟩
  · have KK := K16 h.1 h.2
    clear K0 K1 K2 K3 K4 K5 K6 K7 K8 K9 K10 K11 K12 K13 K14 K15 K16 K17
    obtain ⟨k1, k5, k6⟩ := KK
    obtain ⟨s1, s2⟩ := wk_shc h.1 h.2
    obtain ⟨q', v1, v2, v3, v4⟩ := far (by omega)
    obtain ⟨T3, y3, y4⟩ := a5.pt (q' := q') k1 (by omega) (by omega)
    subst k5 k6
    obtain ⟨G', ⟨hG, hN⟩, hI'⟩ := ct_simple hI (fun j hj => rfl) (fun j hj => rfl) (show q < q' by omega) y4 T3 v4 (fun G' hG h9 hl => LC_16 (by omega) (by omega) ⟨q', ⟨a1, by omega, v1⟩, v3, by
      rw [tp_ne (by omega)] at y3
      rw [y3] at h9
      rw [hop]
      exact h9⟩)
    exact .inr ⟨_, _, G', st, q', rfl, hI', hG _ _ _ _ h0, hN, by omega, fun _ => by omega, fun _ => by omega, fun _ => v1⟩
  · have KK := K17 h.1
    clear K0 K1 K2 K3 K4 K5 K6 K7 K8 K9 K10 K11 K12 K13 K14 K15 K16 K17
    obtain ⟨i, c1, k1, k2, k3, k4, k5, k6, k7⟩ := KK
    have sh : wk_sh op = 0 := wk_sh_n h.1 h.2
    obtain ⟨z1, z2⟩ := sg_ty i k1
    obtain ⟨T1, y1⟩ := a5.tkl (fun y hy => by rw [List.eq_of_mem_replicate hy]; exact z1) k4
    obtain ⟨T3, y3, y4⟩ := T1.pt (q' := q + 1) k5 (by omega) (by omega)
    subst k6 k7
    obtain ⟨G', ⟨hG, hN⟩, hI'⟩ := ct_simple hI (fun j _ => rfl) (fun j _ => rfl) (show q < q + 1 by omega) y4 T3 ⟨m, w1 sh⟩ (fun G' _ h9 hl => LC_17 (by omega) ⟨i, c1, k1, by rw [hop]; exact k2, by rw [hop]; exact k3, y1 hl, by
      rw [tp_ne (by omega)] at y3
      rw [y3] at h9
      exact h9⟩)
    exact .inr ⟨_, _, G', st, q + 1, rfl, hI', hG _ _ _ _ h0, hN, by omega, fun _ => rfl, fun _ => by omega, fun _ => by omega⟩
theorem ct_step (hby : ∀ j, -128 ≤ (cb j).toInt ∧ (cb j).toInt ≤ 127) (hL : xr_L 5 (mp0 N cb) (n 0) (vs 0)) (ht : t < n 0 / 5) (hlo : ∀ j, j < lcn → 124 ≤ (lo j).toInt ∧ (lo j).toInt ≤ 127)
    (hv : ∀ i : Nat, i < n 5 / 4 → 124 ≤ (vs 5 (4 * i + 1)).toInt ∧ (vs 5 (4 * i + 1)).toInt ≤ 127) (hfn : ∀ i : Nat, i < n 2 / 2 → (vs 2 (2 * i + 1)).toInt < (n 0 / 5 : Nat))
    (hI : ct_I n vs cb lo t lcn p0 E ν0 G ν q cur f r st g) (h0 : G 0 p0 [] []) (hop : (cb q).toInt % 256 = op) (hs : ck_st n vs cb lo t lcn (if op = 5 then fv f else lvb f) q op cur f r ν g cur' fs' ν' g') :
    (fs' = [] ∧ q + 1 = E ∧ wk_sh op = 3 ∧ ct_Z n vs cb lo t lcn p0 E ν0 ν' g') ∨ ∃ (f' : ckF) (r' : List ckF) (G' : ctG) (st' : List (Nat × Option Nat)) (q' : Nat), fs' = f' :: r' ∧ ct_I n vs cb lo t lcn p0 E ν0 G' ν' q' cur' f' r' st' g' ∧ G' 0 p0 [] [] ∧ q < q' ∧ (wk_sh op = 0 ∨ wk_sh op = 2 ∨ wk_sh op = 3 → q' = q + 1) ∧ (wk_sh op = 1 → q' = q + 2) ∧ (4 ≤ wk_sh op → (ν' q).toInt = q') := by
  rcases ct_stepW hby hL ht hlo hv hfn hI h0 hop hs with ⟨h1, h2, h3, h4⟩ | ⟨f', r', G', st', q', h1, h2, h3, -, h5⟩
  · exact .inl ⟨h1, h2, h3, G, h4⟩
  · exact .inr ⟨f', r', G', st', q', h1, h2, h3, h5⟩
end CT4
