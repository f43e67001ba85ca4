-- a module becomes an instance: its elements and data are written
theorem z_ushr {x y : Int32} {k : Nat} (hy : y.toUInt32.toNat = k) (hk : k < 32) (hx : 0 ≤ x.toInt) : (xb_ushr x y).toInt = x.toInt / (2 ^ k : Nat) := by
  have e1 : (y.toUInt32 &&& Int32.toUInt32 31).toNat = k := by
    rw [UInt32.toNat_and, hy]
    have : (Int32.toUInt32 31).toNat = 2 ^ 5 - 1 := rfl
    rw [this, Nat.and_two_pow_sub_one_eq_mod]
    omega
  have e2 : (xb_ushr x y).toBitVec.toNat = x.toBitVec.toNat / 2 ^ k := by
    show (x.toUInt32 >>> (y.toUInt32 &&& Int32.toUInt32 31)).toNat = _
    rw [UInt32.toNat_shiftRight, e1, Nat.mod_eq_of_lt hk, Nat.shiftRight_eq_div_pow]
    rfl
  have e3 := z_nat x
  have r := z_rg x
  have e4 : (x.toBitVec.toNat : Int) = x.toInt := by omega
  have e5 := z_nat (xb_ushr x y)
  have r2 := z_rg (xb_ushr x y)
  have hp : 0 < 2 ^ k := Nat.two_pow_pos k
  have e6 : ((x.toBitVec.toNat / 2 ^ k : Nat) : Int) = x.toInt / (2 ^ k : Nat) := by
    rw [Int.natCast_ediv, e4]
  rw [e2, e6] at e5
  have h1 : x.toInt / ((2 ^ k : Nat) : Int) ≤ x.toInt := Int.ediv_le_self _ hx
  have h2 : 0 ≤ x.toInt / ((2 ^ k : Nat) : Int) := Int.ediv_nonneg hx (by omega)
  generalize x.toInt / ((2 ^ k : Nat) : Int) = y9 at *
  omega
theorem z_65535 (x : Int32) : (x &&& 65535).toInt = x.toInt % 65536 := z_mask x 16 rfl (by omega)
/-- writes, one after another -/
def wrs {α : Type} (a : Nat → Nat) (v : Nat → α) (f : Nat → α) : Nat → Nat → α
  | 0 => f
  | k + 1 => va_up (wrs a v f k) (a k) (v k)
/-- rows of writes, one after another -/
def wrr {α : Type} (len : Nat → Nat) (a : Nat → Nat → Nat) (v : Nat → Nat → α) (f : Nat → α) : Nat → Nat → α
  | 0 => f
  | j + 1 => wrs (a j) (v j) (wrr len a v f j) (len j)
section MK2
variable {own own' ad ad' : Nat → Nat} {h h' : xb_H} {W : wD} {σ : Nat}
theorem mO_wordOf {ma sl pc np p : Nat} {x : Int32} {Qr : Int32 → xb_H → Prop} (km : xb_k h ma = 13) (rsl : xb_r h ma 2 = some sl) (ks : xb_k h sl = 102) (ns : xb_n h sl = 16) (hsl : ∀ j, j < pc → 0 ≤ (xb_i h sl j).toInt ∧ (xb_i h sl j).toInt < (np : Nat)) (hpc : pc ≤ 16) (hnp : np ≤ 16) (hx : x.toInt = p) (hp : p < 65536 * pc) (hQ : ∀ (r : Int32) (w : Nat), r.toInt = w → w < 8192 * np → w = mpA (xb_i h sl) p / 8 → Qr r h) : w_Memory_wordOf ma x h Qr := by
  have e16 : (xb_ushr x 16).toInt = x.toInt / 65536 := z_ushr (k := 16) rfl (by omega) (by omega)
  have e3 : (xb_ushr (x &&& 65535) 3).toInt = (x &&& 65535).toInt / 8 := z_ushr (k := 3) rfl (by omega) (by rw [z_65535]; omega)
  rw [z_65535] at e3
  have c16 : (xb_ushr x 16).toNatClampNeg = p / 65536 := by rw [z_cl, e16, hx]; omega
  obtain ⟨g1, g2⟩ := hsl (p / 65536) (by omega)
  unfold w_Memory_wordOf
  rw [c16]
  obtain ⟨v, hv⟩ : ∃ v : Nat, (xb_i h sl (p / 65536)).toInt = v := ⟨(xb_i h sl (p / 65536)).toInt.toNat, by omega⟩
  have e0 : (8192 : Int32).toInt = 8192 := rfl
  have e4 : (xb_i h sl (p / 65536) * 8192).toInt = (8192 * v : Nat) := by
    rw [z_mul, hv, e0]
    omega
  obtain ⟨u, hu⟩ : ∃ u : Nat, (xb_ushr (x &&& 65535) 3).toInt = u ∧ u < 8192 := ⟨(p % 65536) / 8, by rw [e3, hx]; omega, by omega⟩
  refine ⟨km, sl, rsl, ks, by rw [z_in, e16, hx, ns]; omega, hQ _ (8192 * v + u) ?_ (by omega) ?_⟩
  · rw [z_add, e4, hu.1]
    omega
  · unfold mpA
    have hu2 := hu.1
    rw [e3, hx] at hu2
    rw [hv]
    omega
theorem mpA_8 (sl : Nat → Int32) (p : Nat) : mpA sl p % 8 = p % 8 := by
  unfold mpA
  omega
theorem mO_setByte {ma sl pc np p : Nat} {x x2 : Int32} {Qr : xb_H → Prop} (hB : cB own ad h) (km : xb_k h ma = 13) (r0 : xb_r h ma 0 = some (ad 25)) (rsl : xb_r h ma 2 = some sl) (ks : xb_k h sl = 102) (ns : xb_n h sl = 16) (hsl : ∀ j, j < pc → 0 ≤ (xb_i h sl j).toInt ∧ (xb_i h sl j).toInt < (np : Nat)) (hpc : pc ≤ 16) (hnp : np ≤ 16) (hR : xr_row h (ad 25) 1 (8192 * np) (ad 26)) (hx : x.toInt = p) (hp : p < 65536 * pc) (hQ : ∀ (w : Nat) (y : Int64), (∀ b, byA (va_up (xb_l h (ad 26)) w y) b = if b = mpA (xb_i h sl) p then (x2.toInt % 256).toNat else byA (xb_l h (ad 26)) b) → Qr (xb_L h (ad 26) w y)) : w_Memory_setByte ma x x2 h Qr := by
  obtain ⟨b1, b2, b3, b4, b5, b6, b7, b8⟩ := hR
  unfold w_Memory_setByte
  refine ⟨km, mO_wordOf km rsl ks ns hsl hpc hnp hx hp (fun r w e1 e2 ew _ v4 e4 => ⟨ad 25, r0, b1, ad 26, b4, ad 25, r0, b1, ad 26, b4, b5, by rw [z_in, e1]; omega, b5, by rw [z_in, e1]; omega, fun h15 e15 => ?_⟩)⟩
  rw [e15]
  have cr : r.toNatClampNeg = w := by rw [z_cl, e1, Int.toNat_natCast]
  rw [cr]
  exact hQ _ _ (fun b => by_set hx (mpA_8 _ _) ew e4 b)
/-- the expressions' values depend on few components alone -/
theorem cv_cg {ad ad' : Nat → Nat} {h h' : xb_H} {d : mD} {p : Nat} (h1 : xb_l h' (ad' 22) = xb_l h (ad 22)) (h2 : xb_l h' (ad' 35) = xb_l h (ad 35)) : cv ad' h' d p = cv ad h d p := by
  unfold cv
  rw [h1, h2]
theorem wI.L24 {e : Nat} {y : Int64} (hB : cB own ad h) (hW : wI own ad h W σ) (hy : y.toInt = -1 ∨ ∃ f : Nat, y.toInt = f ∧ vf W f) : wI own ad (xb_L h (ad 24) e y) W σ := by
  have nn : ∀ k, k < 41 → k ≠ 24 → ad k ≠ ad 24 := fun k hk h9 => hB.ne hk (by omega) h9
  obtain ⟨⟨o1, o2, o3⟩, ⟨v1, v2, v3⟩, ⟨e1, e2, e3⟩, ⟨w1, w2⟩, ⟨un, u1, u2⟩, ⟨nn', ns, n1, n2, n3, n4, n5⟩, ⟨l1, l2, l3, l4⟩, ⟨⟨g1n, g1⟩, g2n, g2⟩, ⟨s1, s2, s3⟩⟩ := hW
  have ex : xb_ext h (xb_L h (ad 24) e y) := fun a _ => ⟨rfl, rfl⟩
  have sm : ∀ k, k < 41 → k ≠ 24 → xh_sm h (xb_L h (ad 24) e y) (ad k) := fun k hk h9 => xh_smL _ _ _ (nn k hk h9)
  refine ⟨⟨o1.fr (sm 19 (by omega) (by omega)) ex, o2, fun f hf => by rw [(sm 20 (by omega) (by omega)).2.1]; exact o3 f hf⟩, ⟨v1.fr (sm 21 (by omega) (by omega)) ex, v2, fun v hv => by rw [(sm 22 (by omega) (by omega)).2.1]; exact v3 v hv⟩, ⟨e1.fr (sm 23 (by omega) (by omega)) ex, e2, fun j hj => ?_⟩, ⟨w1.fr (sm 25 (by omega) (by omega)) ex, w2⟩, ⟨un, u1.fr (sm 27 (by omega) (by omega)) ex, u2⟩, ⟨nn', ns, n1.fr (sm 29 (by omega) (by omega)) ex, n2, n3, n4, fun k hk => by rw [(sm 30 (by omega) (by omega)).2.1]; exact n5 k hk⟩, ⟨l1, l2, l3, fun i hi => ⟨(l4 i hi).1, (l4 i hi).2.fr (fun a ha ho => xh_smL _ _ _ (hB.nk (c := own a) (by omega) rfl (by omega))) ex (fun _ _ => rfl) rfl⟩⟩, ⟨⟨g1n, g1.fr (sm 32 (by omega) (by omega)) ex⟩, g2n, g2.fr (sm 34 (by omega) (by omega)) ex⟩, ⟨s1, s2, s3⟩⟩
  rw [xh_lL, if_pos rfl, xh_up]
  split
  · exact hy
  · exact e3 j hj
theorem wI.L26 {e : Nat} {y : Int64} (hB : cB own ad h) (hW : wI own ad h W σ) : wI own ad (xb_L h (ad 26) e y) W σ := by
  have nn : ∀ k, k < 41 → k ≠ 26 → ad k ≠ ad 26 := fun k hk h9 => hB.ne hk (by omega) h9
  obtain ⟨⟨o1, o2, o3⟩, ⟨v1, v2, v3⟩, ⟨e1, e2, e3⟩, ⟨w1, w2⟩, ⟨un, u1, u2⟩, ⟨nn', ns, n1, n2, n3, n4, n5⟩, ⟨l1, l2, l3, l4⟩, ⟨⟨g1n, g1⟩, g2n, g2⟩, ⟨s1, s2, s3⟩⟩ := hW
  have ex : xb_ext h (xb_L h (ad 26) e y) := fun a _ => ⟨rfl, rfl⟩
  have sm : ∀ k, k < 41 → k ≠ 26 → xh_sm h (xb_L h (ad 26) e y) (ad k) := fun k hk h9 => xh_smL _ _ _ (nn k hk h9)
  exact ⟨⟨o1.fr (sm 19 (by omega) (by omega)) ex, o2, fun f hf => by rw [(sm 20 (by omega) (by omega)).2.1]; exact o3 f hf⟩, ⟨v1.fr (sm 21 (by omega) (by omega)) ex, v2, fun v hv => by rw [(sm 22 (by omega) (by omega)).2.1]; exact v3 v hv⟩, ⟨e1.fr (sm 23 (by omega) (by omega)) ex, e2, fun j hj => by rw [(sm 24 (by omega) (by omega)).2.1]; exact e3 j hj⟩, ⟨w1.fr (sm 25 (by omega) (by omega)) ex, w2⟩, ⟨un, u1.fr (sm 27 (by omega) (by omega)) ex, u2⟩, ⟨nn', ns, n1.fr (sm 29 (by omega) (by omega)) ex, n2, n3, n4, fun k hk => by rw [(sm 30 (by omega) (by omega)).2.1]; exact n5 k hk⟩, ⟨l1, l2, l3, fun i hi => ⟨(l4 i hi).1, (l4 i hi).2.fr (fun a ha ho => xh_smL _ _ _ (hB.nk (c := own a) (by omega) rfl (by omega))) ex (fun _ _ => rfl) rfl⟩⟩, ⟨⟨g1n, g1.fr (sm 32 (by omega) (by omega)) ex⟩, g2n, g2.fr (sm 34 (by omega) (by omega)) ex⟩, ⟨s1, s2, s3⟩⟩
/-- what is written into an instance: nothing but the items of component c -/
def wrR (ad : Nat → Nat) (c : Nat) (h h' : xb_H) : Prop := ∃ f : Nat → Int64, h' = xb_La h (ad c) f
theorem wrR.rf (ad : Nat → Nat) (c : Nat) (h : xb_H) : wrR ad c h h := ⟨xb_l h (ad c), by
  show h = (h.1, h.2.1, h.2.2.1, va_up h.2.2.2.1 (ad c) (h.2.2.2.1 (ad c)), h.2.2.2.2)
  rw [show va_up h.2.2.2.1 (ad c) (h.2.2.2.1 (ad c)) = h.2.2.2.1 from ?_]
  funext b
  rw [xh_up]
  split
  · rename_i e
    rw [e]
  · rfl⟩
theorem wrR.L {c e : Nat} {y : Int64} (hr : wrR ad c h h') : wrR ad c h (xb_L h' (ad c) e y) := by
  obtain ⟨f, e1⟩ := hr
  refine ⟨va_up f e y, ?_⟩
  subst e1
  unfold xb_L
  rw [xh_LaLa, xh_lLa, if_pos rfl]
theorem wrR.sm {c a : Nat} (hr : wrR ad c h h') (ha : a ≠ ad c) : xh_sm h h' a := by
  obtain ⟨f, e⟩ := hr
  rw [e]
  exact xh_smLa _ _ ha
theorem wrR.ex {c : Nat} (hr : wrR ad c h h') : xb_ext h h' := by
  obtain ⟨f, e⟩ := hr
  rw [e]
  exact fun a _ => ⟨rfl, rfl⟩
theorem wrR.B {c : Nat} (hr : wrR ad c h h') (hB : cB own ad h) : cB own ad h' := by
  obtain ⟨f, e⟩ := hr
  rw [e]
  exact hB
theorem fV.wr {c n : Nat} {d : mD} (hr : wrR ad c h h') (hB : cB own ad h) (hc : c = 24 ∨ c = 26) (hF : fV ad h W d n) : fV ad h' W d n := by
  have s34 := hr.sm (a := ad 34) (hB.ne (by omega) (by omega) (by omega))
  have s35 := hr.sm (a := ad 35) (hB.ne (by omega) (by omega) (by omega))
  exact ⟨hF.1.fr s34 hr.ex, fun j hj => by rw [s35.2.1]; exact hF.2 j hj⟩
/-- the rows of elements of an instance: how long, where, what -/
def elL (d : mD) (j : Nat) : Nat := (dvs d 7 (5 * j + 4)).toInt.toNat
def elA (ad : Nat → Nat) (h : xb_H) (W : wD) (i j t : Nat) : Nat := (xb_i h ((xb_r h (wia W i) 6).getD 0) 0).toInt.toNat + (cv ad h (wd W i) (dvs (wd W i) 7 (5 * j + 2)).toInt.toNat).toInt.toNat + t
def elX (h : xb_H) (W : wD) (i j t : Nat) : Int := (fnI h W i (dvs (wd W i) 8 (2 * ((dvs (wd W i) 7 (5 * j + 3)).toInt.toNat + t) + 1)).toInt.toNat : Nat)
/-- the rows of data of an instance: how long, where, what -/
def daL (d : mD) (j : Nat) : Nat := (dvs d 11 (5 * j + 4)).toInt.toNat
def daA (ad : Nat → Nat) (h : xb_H) (W : wD) (i j t : Nat) : Nat := mpA (xb_i h ((xb_r h ((xb_r h (wia W i) 7).getD 0) 2).getD 0)) ((cv ad h (wd W i) (dvs (wd W i) 11 (5 * j + 2)).toInt.toNat).toInt.toNat + t)
def daX (d : mD) (j t : Nat) : Nat := ((dcb d ((dvs d 11 (5 * j + 3)).toInt.toNat + t)).toInt % 256).toNat
theorem mk_elements {i : Nat} {Qr : xb_H → Prop} (hB : cB own ad h) (hW : wI own ad h W σ) (hi : i < wic W) (hF : fV ad h W (wd W i) (ni (wd W i) 3))
    (hb : ∀ j, j < dn (wd W i) 7 / 5 → ∃ ta sz : Nat, xb_r h (wia W i) 6 = some ta ∧ (xb_i h ta 1).toInt = sz ∧ (cv ad h (wd W i) (dvs (wd W i) 7 (5 * j + 2)).toInt.toNat).toInt + (dvs (wd W i) 7 (5 * j + 4)).toInt ≤ sz)
    (hQ : ∀ h' : xb_H, wrR ad 24 h h' → wI own ad h' W σ → (∀ e, (xb_l h' (ad 24) e).toInt = wrr (elL (wd W i)) (elA ad h W i) (elX h W i) (fun e => (xb_l h (ad 24) e).toInt) (dn (wd W i) 7 / 5) e) → Qr h') : w_World_writeElements (ad 14) (wia W i) h Qr := by
  have k14 : xb_k h (ad 14) = 7 := hB.k 14 (by omega)
  obtain ⟨d, hd⟩ : ∃ d, d = wd W i := ⟨_, rfl⟩
  rw [← hd] at hF hb hQ
  have q2 := (hW.2.2.2.2.2.2.1.2.2.2 i hi).2
  have hm0 := q2.1.2.2.2.2
  rw [← hd] at hm0
  obtain ⟨n1, n2, n3, n4, n5, n6, n7, n8⟩ := hm0.nn
  have hv := hm0.2.1
  obtain ⟨⟨m7, hm7⟩, hrow⟩ := hv.2.2.2.2.2.2.2.1
  obtain ⟨m8, hm8⟩ := hv.2.2.2.2.2.2.2.2.1.1
  have h4 := hv.2.2.2.2.2.2.2.2.2.2.2.1
  have h5 := hv.2.2.2.2.2.2.2.2.2.2.2.2.1
  have hn7 := h4 7 (by omega)
  have hn8 := h4 8 (by omega)
  have hn2 := h4 2 (by omega)
  have at24 : ∀ h1, wrR ad 24 h h1 → ∀ a, own a = 1 → xh_sm h h1 a := fun h1 hr a ho => hr.sm (hB.n1 (by omega) ho)
  have key : ∀ (m : Nat) (x3 : Int32) (j : Nat) (h1 : xb_H), x3.toInt = j → j ≤ dn d 7 / 5 → dn d 7 / 5 - j ≤ m → wrR ad 24 h h1 → wI own ad h1 W σ → (∀ e, (xb_l h1 (ad 24) e).toInt = wrr (elL d) (elA ad h W i) (elX h W i) (fun e => (xb_l h (ad 24) e).toInt) j e) → w_World_writeElements_L7 Qr (m + 1) (ad 14) (wia W i) (wim W i) x3 h1 := by
    intro m
    induction m with
    | zero =>
      intro x3 j h1 e3 hj hm9 hr hW1 hel
      have hm1 := ((hW1.2.2.2.2.2.2.1.2.2.2 i hi).2).1.2.2.2.2
      rw [← hd] at hm1
      unfold w_World_writeElements_L7
      refine ⟨hm1.1.k, _, hm1.1.row (k := 7) (by omega), hm1.1.krow (by omega), md_lines hm1.1 (k := 7) (c := 5) (by omega) rfl (by omega) (fun r5 e5 _ => ⟨fun e => hQ h1 hr hW1 (by rw [z_le, e5, e3] at e; rw [show dn d 7 / 5 = j by omega]; exact hel), fun e => ?_⟩)⟩
      rw [z_le, e5, e3] at e
      omega
    | succ m ih =>
      intro x3 j h1 e3 hj hm9 hr hW1 hel
      have hB1 := hr.B hB
      have q1 := (hW1.2.2.2.2.2.2.1.2.2.2 i hi).2
      have hm1 := q1.1.2.2.2.2
      rw [← hd] at hm1
      unfold w_World_writeElements_L7
      refine ⟨hm1.1.k, _, hm1.1.row (k := 7) (by omega), hm1.1.krow (by omega), md_lines hm1.1 (k := 7) (c := 5) (by omega) rfl (by omega) (fun r5 e5 _ => ⟨fun e => hQ h1 hr hW1 (by rw [z_le, e5, e3] at e; rw [show dn d 7 / 5 = j by omega]; exact hel), fun e => ?_⟩)⟩
      rw [z_le, e5, e3] at e
      have hj7 : j < dn d 7 / 5 := by omega
      obtain ⟨ta, sz, t1, t2, t3⟩ := hb j hj7
      have sq := at24 h1 hr (wia W i) q2.1.2.1
      have t1' : xb_r h1 (wia W i) 6 = some ta := by rw [sq.2.2]; exact t1
      have hta := q1.2.2.2.2.2.1.2 ta t1'
      obtain ⟨u1, u2, fr, sz', u3, u4, u5⟩ := hta
      have sta := at24 h1 hr ta u2
      have esz : sz' = sz := by rw [sta.1] at u4; omega
      subst esz
      obtain ⟨⟨y1, y2⟩, ⟨p, y3, y4⟩, ⟨y5, y6, y7⟩, y8⟩ := hrow j hj7
      have hpN := y4.1
      have j5 : 5 * j + 5 ≤ dn d 7 := by omega
      obtain ⟨len, hlen⟩ : ∃ l : Nat, (dvs d 7 (5 * j + 4)).toInt = l := ⟨(dvs d 7 (5 * j + 4)).toInt.toNat, by omega⟩
      obtain ⟨frm, hfrm⟩ : ∃ l : Nat, (dvs d 7 (5 * j + 3)).toInt = l := ⟨(dvs d 7 (5 * j + 3)).toInt.toNat, by omega⟩
      have s22 := hr.sm (a := ad 22) (hB.ne (by omega) (by omega) (by omega))
      have s35 := hr.sm (a := ad 35) (hB.ne (by omega) (by omega) (by omega))
      have ecv : cv ad h1 d p = cv ad h d p := cv_cg s22.2.1 s35.2.1
      rw [y3, Int.toNat_natCast, hlen] at t3
      unfold w_World_offsetOf
      refine ⟨q1.1.1, ta, t1', u1, _, hm1.1.row (k := 7) (by omega), by rw [hB1.k 14 (by omega)]; rfl, hm1.1.krow (by omega), md_at (c := 5) hm1.1 (i := j) (j := 2) (by omega) rfl e3 rfl (by omega) j5 (fun r3 e3' _ => ⟨by rw [hB1.k 14 (by omega)]; rfl, wI_valueOf hB1 hW1.2.1 (hF.wr hr hB (.inl rfl)) hm1 (n5 3 (by omega)) (p := p) (by omega) y4 (fun hvr _ _ v14 e14 => ⟨_, hm1.1.row (k := 7) (by omega), hm1.1.krow (by omega), md_at (c := 5) hm1.1 (i := j) (j := 3) (by omega) rfl e3 rfl (by omega) j5 (fun r18 e18 _ => ⟨len + 1, ?_⟩)⟩)⟩)⟩
      obtain ⟨w1, w2⟩ := hvr (.inl rfl)
      rw [ecv] at w1 w2 e14
      obtain ⟨off, hoff⟩ : ∃ l : Nat, (cv ad h d p).toInt = l := ⟨(cv ad h d p).toInt.toNat, by omega⟩
      have hne := hW1.2.2.1.2.1
      have f14 : v14.toInt = (fr + off : Nat) := by
        rw [e14, z_add, u3, z_l2i hoff (by omega)]
        omega
      have f18 : r18.toInt = frm := by omega
      have eL : elL d j = len := by unfold elL; omega
      have t1h : xb_r h (wia W i) 6 = some ta := t1
      have eA : ∀ t, elA ad h W i j t = fr + off + t := fun t => by
        unfold elA
        rw [t1h, Option.getD_some, ← hd, y3, Int.toNat_natCast, hoff, Int.toNat_natCast]
        rw [← sta.1, u3, Int.toNat_natCast]
      have eX : ∀ (t fn : Nat), (dvs d 8 (2 * (frm + t) + 1)).toInt = fn → ∀ h2, wrR ad 24 h h2 → elX h W i j t = (fnI h2 W i fn : Nat) := fun t fn hfn h2 hr2 => by
        unfold elX
        rw [← hd, hfrm, Int.toNat_natCast, hfn, Int.toNat_natCast, fnI_sm q2 (fun a _ ho => at24 h2 hr2 a ho)]
      have inner : ∀ (mm : Nat) (x6 : Int32) (t : Nat) (h2 : xb_H), x6.toInt = t → t ≤ len → len - t ≤ mm → wrR ad 24 h h2 → wI own ad h2 W σ → (∀ e, (xb_l h2 (ad 24) e).toInt = wrs (elA ad h W i j) (elX h W i j) (wrr (elL d) (elA ad h W i) (elX h W i) (fun e => (xb_l h (ad 24) e).toInt) j) t e) → w_World_writeElements_L53 (w_World_writeElements_L7 Qr (m + 1)) Qr (mm + 1) (ad 14) (wia W i) (wim W i) x3 v14 r18 x6 h2 := by
        intro mm
        induction mm with
        | zero =>
          intro x6 t h2 e6 ht hmm hr2 hW2 hes
          have hm2 := ((hW2.2.2.2.2.2.2.1.2.2.2 i hi).2).1.2.2.2.2
          rw [← hd] at hm2
          unfold w_World_writeElements_L53
          refine ⟨hm2.1.k, _, hm2.1.row (k := 7) (by omega), hm2.1.krow (by omega), md_at (c := 5) hm2.1 (i := j) (j := 4) (by omega) rfl e3 rfl (by omega) j5 (fun r5' e5' _ => ⟨fun e => ih (x3 + 1) (j + 1) h2 (z_inc e3 (by omega)) (by omega) (by omega) hr2 hW2 (by rw [z_le, e6] at e; show ∀ e, _ = wrs _ _ _ (elL d j) e; rw [eL, show len = t by omega]; exact hes), fun e => ?_⟩)⟩
          rw [z_le, e6] at e
          omega
        | succ mm ih2 =>
          intro x6 t h2 e6 ht hmm hr2 hW2 hes
          have hB2 := hr2.B hB
          have q2' := (hW2.2.2.2.2.2.2.1.2.2.2 i hi).2
          have hm2 := q2'.1.2.2.2.2
          rw [← hd] at hm2
          unfold w_World_writeElements_L53
          refine ⟨hm2.1.k, _, hm2.1.row (k := 7) (by omega), hm2.1.krow (by omega), md_at (c := 5) hm2.1 (i := j) (j := 4) (by omega) rfl e3 rfl (by omega) j5 (fun r5' e5' _ => ⟨fun e => ih (x3 + 1) (j + 1) h2 (z_inc e3 (by omega)) (by omega) (by omega) hr2 hW2 (by rw [z_le, e6] at e; show ∀ e, _ = wrs _ _ _ (elL d j) e; rw [eL, show len = t by omega]; exact hes), fun e => ?_⟩)⟩
          rw [z_le, e6] at e
          have htl : t < len := by omega
          obtain ⟨qq, z1, z2, z3⟩ := y8 t (by omega)
          have eqq : qq = frm + t := by omega
          subst eqq
          have e18t : (r18 + x6).toInt = (frm + t : Nat) := by rw [z_add, f18, e6]; omega
          have e14t : (v14 + x6).toInt = (fr + off + t : Nat) := by rw [z_add, f14, e6]; omega
          obtain ⟨fn, hfn⟩ : ∃ l : Nat, (dvs d 8 (2 * (frm + t) + 1)).toInt = l := ⟨(dvs d 8 (2 * (frm + t) + 1)).toInt.toNat, by omega⟩
          have hno := hW2.1.2.1
          obtain ⟨b1, b2, b3, b4, b5, b6, b7, b8⟩ := hW2.2.2.1.1
          have r14 := hB2.r (14, 4, 23) (by decide)
          refine ⟨_, hm2.1.row (k := 8) (by omega), hm2.1.krow (by omega), md_at (c := 2) hm2.1 (i := frm + t) (j := 1) (by omega) rfl e18t rfl (by omega) (by omega) (fun r10 e10 _ => ⟨hB2.k 14 (by omega), ad 23, r14, b1, ad 24, b4, q2'.1.1, iO_functionId q2' hno (k := fn) (by omega) (by rw [← hd]; unfold nf; omega) (fun r17 f g1 g2 ⟨g3, g3f⟩ _ => ⟨b5, by rw [z_in, e14t]; omega, fun h20 e20 => ?_⟩)⟩)⟩
          rw [z_cl, e14t, Int.toNat_natCast] at e20
          subst e20
          refine ih2 (x6 + 1) (t + 1) _ (z_inc e6 (by omega)) (by omega) (by omega) hr2.L (hW2.L24 hB2 (.inr ⟨f, ?_, g2⟩)) (fun e => ?_)
          · rw [Z_of32]
            exact g1
          · rw [xh_lL, if_pos rfl, xh_up]
            show _ = va_up _ _ _ e
            rw [xh_up, eA t, eX t fn hfn h2 hr2]
            split
            · rw [Z_of32, g1, g3f]
            · exact hes e
      exact inner len 0 0 h1 rfl (by omega) (by omega) hr hW1 (fun e => hel e)
  unfold w_World_writeElements
  exact ⟨q2.1.1, _, q2.1.2.2.2.1, dn d 7 / 5 + 1, key _ 0 0 h rfl (by omega) (by omega) (wrR.rf ad 24 h) hW (fun e => rfl)⟩
theorem mk_data {i : Nat} {Qr : xb_H → Prop} (hB : cB own ad h) (hW : wI own ad h W σ) (hi : i < wic W) (hF : fV ad h W (wd W i) (ni (wd W i) 3))
    (hb : ∀ j, j < dn (wd W i) 11 / 5 → ∃ ma pc : Nat, xb_r h (wia W i) 7 = some ma ∧ (xb_i h ma 3).toInt = pc ∧ (cv ad h (wd W i) (dvs (wd W i) 11 (5 * j + 2)).toInt.toNat).toInt + (dvs (wd W i) 11 (5 * j + 4)).toInt ≤ 65536 * pc)
    (hQ : ∀ h' : xb_H, wrR ad 26 h h' → wI own ad h' W σ → (∀ b, byA (xb_l h' (ad 26)) b = wrr (daL (wd W i)) (daA ad h W i) (daX (wd W i)) (byA (xb_l h (ad 26))) (dn (wd W i) 11 / 5) b) → Qr h') : w_World_writeData (ad 14) (wia W i) h Qr := by
  have k14 : xb_k h (ad 14) = 7 := hB.k 14 (by omega)
  obtain ⟨d, hd⟩ : ∃ d, d = wd W i := ⟨_, rfl⟩
  rw [← hd] at hF hb hQ
  have q2 := (hW.2.2.2.2.2.2.1.2.2.2 i hi).2
  have hm0 := q2.1.2.2.2.2
  rw [← hd] at hm0
  obtain ⟨n1, n2, n3, n4, n5, n6, n7, n8⟩ := hm0.nn
  have hv := hm0.2.1
  obtain ⟨⟨m7, hm7⟩, hrow⟩ := hv.2.2.2.2.2.2.2.2.2.1
  have h4 := hv.2.2.2.2.2.2.2.2.2.2.2.1
  have h5 := hv.2.2.2.2.2.2.2.2.2.2.2.2.1
  have hn7 := h4 11 (by omega)
  have key : ∀ (m : Nat) (x3 : Int32) (j : Nat) (h1 : xb_H), x3.toInt = j → j ≤ dn d 11 / 5 → dn d 11 / 5 - j ≤ m → wrR ad 26 h h1 → wI own ad h1 W σ → (∀ b, byA (xb_l h1 (ad 26)) b = wrr (daL d) (daA ad h W i) (daX d) (byA (xb_l h (ad 26))) j b) → w_World_writeData_L7 Qr (m + 1) (ad 14) (wia W i) (wim W i) x3 h1 := by
    intro m
    induction m with
    | zero =>
      intro x3 j h1 e3 hj hm9 hr hW1 hel
      have hm1 := ((hW1.2.2.2.2.2.2.1.2.2.2 i hi).2).1.2.2.2.2
      rw [← hd] at hm1
      unfold w_World_writeData_L7
      refine ⟨hm1.1.k, _, hm1.1.row (k := 11) (by omega), hm1.1.krow (by omega), md_lines hm1.1 (k := 11) (c := 5) (by omega) rfl (by omega) (fun r5 e5 _ => ⟨fun e => hQ h1 hr hW1 (by rw [z_le, e5, e3] at e; rw [show dn d 11 / 5 = j by omega]; exact hel), fun e => ?_⟩)⟩
      rw [z_le, e5, e3] at e
      omega
    | succ m ih =>
      intro x3 j h1 e3 hj hm9 hr hW1 hel
      have hB1 := hr.B hB
      have q1 := (hW1.2.2.2.2.2.2.1.2.2.2 i hi).2
      have hm1 := q1.1.2.2.2.2
      rw [← hd] at hm1
      unfold w_World_writeData_L7
      refine ⟨hm1.1.k, _, hm1.1.row (k := 11) (by omega), hm1.1.krow (by omega), md_lines hm1.1 (k := 11) (c := 5) (by omega) rfl (by omega) (fun r5 e5 _ => ⟨fun e => hQ h1 hr hW1 (by rw [z_le, e5, e3] at e; rw [show dn d 11 / 5 = j by omega]; exact hel), fun e => ?_⟩)⟩
      rw [z_le, e5, e3] at e
      have hj7 : j < dn d 11 / 5 := by omega
      obtain ⟨ma, pc, t1, t2, t3⟩ := hb j hj7
      obtain ⟨⟨y1, y2⟩, ⟨p, y3, y4⟩, y5, y6, y7⟩ := hrow j hj7
      have hpN := y4.1
      have j5 : 5 * j + 5 ≤ dn d 11 := by omega
      obtain ⟨len, hlen⟩ : ∃ l : Nat, (dvs d 11 (5 * j + 4)).toInt = l := ⟨(dvs d 11 (5 * j + 4)).toInt.toNat, by omega⟩
      obtain ⟨frm, hfrm⟩ : ∃ l : Nat, (dvs d 11 (5 * j + 3)).toInt = l := ⟨(dvs d 11 (5 * j + 3)).toInt.toNat, by omega⟩
      have s22 := hr.sm (a := ad 22) (hB.ne (by omega) (by omega) (by omega))
      have s35 := hr.sm (a := ad 35) (hB.ne (by omega) (by omega) (by omega))
      have ecv : cv ad h1 d p = cv ad h d p := cv_cg s22.2.1 s35.2.1
      rw [y3, Int.toNat_natCast, hlen] at t3
      unfold w_World_offsetOf
      refine ⟨_, hm1.1.row (k := 11) (by omega), by rw [hB1.k 14 (by omega)]; rfl, hm1.1.krow (by omega), md_at (c := 5) hm1.1 (i := j) (j := 2) (by omega) rfl e3 rfl (by omega) j5 (fun r3 e3' _ => ⟨by rw [hB1.k 14 (by omega)]; rfl, wI_valueOf hB1 hW1.2.1 (hF.wr hr hB (.inr rfl)) hm1 (n5 3 (by omega)) (p := p) (by omega) y4 (fun hvr _ _ v14 e14 => ⟨_, hm1.1.row (k := 11) (by omega), hm1.1.krow (by omega), md_at (c := 5) hm1.1 (i := j) (j := 3) (by omega) rfl e3 rfl (by omega) j5 (fun r18 e18 _ => ⟨len + 1, ?_⟩)⟩)⟩)⟩
      obtain ⟨w1, w2⟩ := hvr (.inl rfl)
      rw [ecv] at w1 w2 e14
      obtain ⟨off, hoff⟩ : ∃ l : Nat, (cv ad h d p).toInt = l := ⟨(cv ad h d p).toInt.toNat, by omega⟩
      have hma0 := q2.2.2.2.2.2.2.2 ma t1
      have hpc16 : pc ≤ 16 := by
        obtain ⟨-, -, -, -, sl, pc', -, -, -, -, -, c6, c7, -⟩ := hma0
        have := hW.2.2.2.1.2
        omega
      have f14 : v14.toInt = off := by
        rw [e14]
        exact z_l2i hoff (by omega)
      have f18 : r18.toInt = frm := by omega
      have eL : daL d j = len := by unfold daL; omega
      have inner : ∀ (mm : Nat) (x6 : Int32) (t : Nat) (h2 : xb_H), x6.toInt = t → t ≤ len → len - t ≤ mm → wrR ad 26 h h2 → wI own ad h2 W σ → (∀ b, byA (xb_l h2 (ad 26)) b = wrs (daA ad h W i j) (daX d j) (wrr (daL d) (daA ad h W i) (daX d) (byA (xb_l h (ad 26))) j) t b) → w_World_writeData_L45 (w_World_writeData_L7 Qr (m + 1)) Qr (mm + 1) (ad 14) (wia W i) (wim W i) x3 v14 r18 x6 h2 := by
        intro mm
        induction mm with
        | zero =>
          intro x6 t h2 e6 ht hmm hr2 hW2 hes
          have hm2 := ((hW2.2.2.2.2.2.2.1.2.2.2 i hi).2).1.2.2.2.2
          rw [← hd] at hm2
          unfold w_World_writeData_L45
          refine ⟨hm2.1.k, _, hm2.1.row (k := 11) (by omega), hm2.1.krow (by omega), md_at (c := 5) hm2.1 (i := j) (j := 4) (by omega) rfl e3 rfl (by omega) j5 (fun r5' e5' _ => ⟨fun e => ih (x3 + 1) (j + 1) h2 (z_inc e3 (by omega)) (by omega) (by omega) hr2 hW2 (by rw [z_le, e6] at e; show ∀ b, _ = wrs _ _ _ (daL d j) b; rw [eL, show len = t by omega]; exact hes), fun e => ?_⟩)⟩
          rw [z_le, e6] at e
          omega
        | succ mm ih2 =>
          intro x6 t h2 e6 ht hmm hr2 hW2 hes
          have hB2 := hr2.B hB
          have q2' := (hW2.2.2.2.2.2.2.1.2.2.2 i hi).2
          have hm2 := q2'.1.2.2.2.2
          rw [← hd] at hm2
          unfold w_World_writeData_L45
          refine ⟨hm2.1.k, _, hm2.1.row (k := 11) (by omega), hm2.1.krow (by omega), md_at (c := 5) hm2.1 (i := j) (j := 4) (by omega) rfl e3 rfl (by omega) j5 (fun r5' e5' _ => ⟨fun e => ih (x3 + 1) (j + 1) h2 (z_inc e3 (by omega)) (by omega) (by omega) hr2 hW2 (by rw [z_le, e6] at e; show ∀ b, _ = wrs _ _ _ (daL d j) b; rw [eL, show len = t by omega]; exact hes), fun e => ?_⟩)⟩
          rw [z_le, e6] at e
          have htl : t < len := by omega
          have e18t : (r18 + x6).toInt = (frm + t : Nat) := by rw [z_add, f18, e6]; omega
          have e14t : (v14 + x6).toInt = (off + t : Nat) := by rw [z_add, f14, e6]; omega
          have sq := hr2.sm (a := wia W i) (hB.n1 (by omega) q2.1.2.1)
          have t1' : xb_r h2 (wia W i) 7 = some ma := by rw [sq.2.2]; exact t1
          obtain ⟨c1, c2, c3, c4, sl, pc', c5, c6, c7, c8, c9, c10, c11, c12⟩ := q2'.2.2.2.2.2.2.2 ma t1'
          have sma := hr2.sm (a := ma) (hB.nk (by omega) hma0.2.1 (by omega))
          have epc : pc' = pc := by rw [sma.1] at c10; omega
          subst epc
          refine ⟨q2'.1.1, ma, t1', _, hm2.1.1.2.1, hm2.1.1.2.2.1, by rw [z_in, e18t, hm2.1.1.2.2.2.1]; omega, c1, ?_⟩
          refine mO_setByte hB2 c1 c3 c5 c6 c9 c12 hpc16 hW2.2.2.2.1.2 hW2.2.2.2.1.1 e14t (by omega) (fun w y ey _ => ?_)
          refine ih2 (x6 + 1) (t + 1) _ (z_inc e6 (by omega)) (by omega) (by omega) hr2.L (hW2.L26 hB2) (fun b => ?_)
          have ssl := hr2.sm (a := sl) (by
            have h9 : own sl = 51 := c7
            exact hB.nk (by omega) h9 (by omega))
          have r2h : xb_r h ma 2 = some sl := by rw [← sma.2.2]; exact c5
          rw [xh_lL, if_pos rfl, ey b]
          show _ = va_up _ _ _ b
          rw [xh_up]
          have eA : daA ad h W i j t = mpA (xb_i h2 sl) (off + t) := by
            unfold daA
            rw [t1, Option.getD_some, r2h, Option.getD_some, ← hd, y3, Int.toNat_natCast, hoff, Int.toNat_natCast, ssl.1]
          have eX : daX d j t = ((xb_i h2 (dcd d) (r18 + x6).toNatClampNeg).toInt % 256).toNat := by
            unfold daX
            rw [hfrm, Int.toNat_natCast, hm2.1.1.2.2.2.2, z_cl, e18t, Int.toNat_natCast]
          rw [eA, eX]
          split
          · rfl
          · exact hes b
      exact inner len 0 0 h1 rfl (by omega) (by omega) hr hW1 (fun b => hel b)
  unfold w_World_writeData
  exact ⟨q2.1.1, _, q2.1.2.2.2.1, dn d 11 / 5 + 1, key _ 0 0 h rfl (by omega) (by omega) (wrR.rf ad 26 h) hW (fun b => rfl)⟩
end MK2
