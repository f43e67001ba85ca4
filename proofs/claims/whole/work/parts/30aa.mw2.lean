-- the reference from outside: what every call keeps
def f0 (own : Nat → Nat) (h : xb_H) (F : Nat → Nat → Int32) (h' : xb_H) (F' : Nat → Nat → Int32) : Prop := xb_k h' = xb_k h ∧ xb_n h' = xb_n h ∧ xb_r h' = xb_r h ∧ ∀ a, own a < 60 → xb_l h' a = xb_l h a ∧ F' a = F a
def rA (own : Nat → Nat) (mm : Nat) (A : Nat → Nat) (h : xb_H) (F : Nat → Nat → Int32) (v : Nat → Int32) (DM : Nat → zM) (len rl K : Nat) : Prop :=
  mB own mm A h ∧ lenE A h len ∧ (xb_n h (A 33) = rl ∧ 1024 ≤ rl ∧ rl ≤ 512000 ∧ vN v 34 ≤ rl ∧ vN v 13 ≤ len) ∧ (∃ (rw_ : Nat) (f : Nat → Nat), own rw_ = 300 ∧ eK (A 90) rw_ f (mH h F mm v)) ∧ RI (fun k => F (A k)) v len DM K
/-- a call that makes nothing -/
def rPq (own : Nat → Nat) (mm : Nat) (A : Nat → Nat) (h : xb_H) (F : Nat → Nat → Int32) (DM : Nat → zM) (len rl K : Nat) (Q : xb_H → Prop) : Prop := ∀ (h' : xb_H) (F' : Nat → Nat → Int32) (v' : Nat → Int32), f0 own h F h' F' → rA own mm A h' F' v' DM len rl K → Q (mH h' F' mm v')
section MW2
variable {own : Nat → Nat} {mm m : Nat} {A : Nat → Nat} {h h' h2 : xb_H} {F F' F2 : Nat → Nat → Int32} {v v' v2 : Nat → Int32} {D : zM} {DM : Nat → zM} {len rl K : Nat}
theorem f0.rf : f0 own h F h F := ⟨rfl, rfl, rfl, fun _ _ => ⟨rfl, rfl⟩⟩
theorem f0.tr (h1 : f0 own h F h' F') (h2' : f0 own h' F' h2 F2) : f0 own h F h2 F2 := ⟨h2'.1.trans h1.1, h2'.2.1.trans h1.2.1, h2'.2.2.1.trans h1.2.2.1, fun a ha => ⟨(h2'.2.2.2 a ha).1.trans (h1.2.2.2 a ha).1, (h2'.2.2.2 a ha).2.trans (h1.2.2.2 a ha).2⟩⟩
theorem f0.L {a k : Nat} {x : Int64} (ha : 60 ≤ own a) : f0 own h F (xb_L h a k x) F := ⟨rfl, rfl, rfl, fun b hb => ⟨by rw [xh_lL, if_neg (fun e => by rw [e] at hb; omega)], rfl⟩⟩
theorem f0.aw {a : Nat} {w : Nat → Int32} (ha : 60 ≤ own a) : f0 own h F h (va_up F a w) := ⟨rfl, rfl, rfl, fun b hb => ⟨rfl, by rw [xh_up, if_neg (fun e => by rw [e] at hb; omega)]⟩⟩
theorem mB.o (hB : mB own mm A h) {k : Nat} (hk : ∃ e ∈ aL, e.1 = k) : own (A k) = 61 + k := by
  obtain ⟨e, he, rfl⟩ := hk
  exact (hB.2.2 e he).2.2.1
theorem mB.f (hB : mB own mm A h) (hf : f0 own h F h' F') : mB own mm A h' := by
  unfold mB
  rw [hf.1, hf.2.1, hf.2.2.1]
  exact hB
theorem lenE.f (hl : lenE A h len) (hf : f0 own h F h' F') : lenE A h' len := by
  unfold lenE
  rw [hf.2.1]
  exact hl
theorem mX.f (hX : mX own mm A h F m D) (hf : f0 own h F h' F') (hF : ∀ k, k ∈ [3, 6, 7, 8, 9, 10, 11] → F' (A k) = F (A k)) : mX own mm A h' F' m D := by
  have h1 : mX own mm A h F' m D := hX.upk hF
  refine ⟨h1.1.f hf, ?_, h1.2.2⟩
  unfold mdH
  rw [hf.2.1]
  exact h1.2.1
theorem eK.cg {ex rw_ : Nat} {f : Nat → Nat} (hk : eK ex rw_ f h) (e1 : xb_k h' = xb_k h) (e2 : xb_n h' = xb_n h) (e3 : xb_r h' = xb_r h) (e4 : xb_i h' ex = xb_i h ex) (e5 : xb_i h' rw_ = xb_i h rw_) : eK ex rw_ f h' := by
  unfold eK eX
  rw [e1, e2, e3, e4, e5]
  exact hk
theorem rA.B (hA : rA own mm A h F v DM len rl K) : mB own mm A h := hA.1
theorem rA.I (hA : rA own mm A h F v DM len rl K) : RI (fun k => F (A k)) v len DM K := hA.2.2.2.2
theorem rA.W1 (hA : rA own mm A h F v DM len rl K) : W1 v K := hA.2.2.2.2.1
theorem rA.n (hA : rA own mm A h F v DM len rl K) {k b : Nat} (hk : (k, b) ∈ wB) : (v k).toInt = vN v k ∧ vN v k ≤ b := hA.2.2.2.2.1.n hk
theorem rA.X (hA : rA own mm A h F v DM len rl K) (hm : m < vN v 5) : mX own mm A h F m (DM m) := by
  obtain ⟨h1, h2, -⟩ := hA.2.2.2.2.2.1 m hm
  obtain ⟨l1, -⟩ := hA.2.1
  refine ⟨hA.1, ?_, h2⟩
  unfold mdH
  rw [l1]
  exact h1
theorem rA.dn (hA : rA own mm A h F v DM len rl (K + 1)) : rA own mm A h F v DM len rl K := ⟨hA.1, hA.2.1, hA.2.2.1, hA.2.2.2.1, hA.2.2.2.2.1.dn, hA.2.2.2.2.2⟩
/-- new numbers and rows, nothing made -/
theorem rA.ch (hA : rA own mm A h F v DM len rl K) (hf : f0 own h F h' F') (h90 : F' (A 90) = F (A 90)) (h300 : ∀ a, own a = 300 → F' a = F a) (h34 : vN v' 34 ≤ rl ∧ vN v' 13 ≤ len) (hI : RI (fun k => F' (A k)) v' len DM K) : rA own mm A h' F' v' DM len rl K := by
  obtain ⟨a1, a2, a3, ⟨rw_, f, a4, a5⟩, a6⟩ := hA
  have n1 : A 90 ≠ mm := a1.nm (by decide)
  have n2 : rw_ ≠ mm := fun e => by
    have := a1.1
    rw [e] at a4
    omega
  refine ⟨a1.f hf, a2.f hf, ⟨by rw [hf.2.1]; exact a3.1, a3.2.1, a3.2.2.1, h34⟩, ⟨rw_, f, a4, a5.cg hf.1 hf.2.1 hf.2.2.1 ?_ ?_⟩, hI⟩
  · rw [mH_o n1, mH_o n1]; exact h90
  · rw [mH_o n2, mH_o n2]; exact h300 _ a4
theorem rA.s (hA : rA own mm A h F v DM len rl K) (e1 : v' 34 = v 34) (e2 : v' 13 = v 13) : vN v' 34 ≤ rl ∧ vN v' 13 ≤ len := by
  unfold vN
  rw [e1, e2]
  exact hA.2.2.1.2.2.2
theorem rA.cg (hA : rA own mm A h F v DM len rl K) (hf : f0 own h F h' F') (h90 : F' (A 90) = F (A 90)) (h300 : ∀ a, own a = 300 → F' a = F a) (h1 : ∀ k, k ∈ aRI → F' (A k) = F (A k)) (h2 : ∀ k, k ∈ vRI → v' k = v k) : rA own mm A h' F' v' DM len rl K :=
  hA.ch hf h90 h300 (hA.s (h2 34 (by decide)) (h2 13 (by decide))) (hA.2.2.2.2.cg (fun k hk => h1 k hk) h2)
theorem rA.vv (hA : rA own mm A h F v DM len rl K) (h2 : ∀ k, k ∈ vRI → v' k = v k) : rA own mm A h F v' DM len rl K := hA.cg f0.rf rfl (fun _ _ => rfl) (fun _ _ => rfl) h2
theorem rA.u (hA : rA own mm A h F v DM len rl K) {k : Nat} {x : Int32} (hk : k ∉ vRI) : rA own mm A h F (va_up v k x) DM len rl K := hA.vv (fun j hj => by rw [xh_up, if_neg (fun (e : j = k) => hk (e ▸ hj))])
theorem rA.L (hA : rA own mm A h F v DM len rl K) {a k : Nat} {x : Int64} (ha : 60 ≤ own a) : rA own mm A (xb_L h a k x) F v DM len rl K := hA.cg (f0.L ha) rfl (fun _ _ => rfl) (fun _ _ => rfl) (fun _ _ => rfl)
theorem rA.aw (hA : rA own mm A h F v DM len rl K) {j : Nat} {w : Nat → Int32} (hj : ∃ e ∈ aL, e.1 = j) (h1 : j ∉ aRI) (h9 : j ≠ 90) (h3 : j < 239) : rA own mm A h (va_up F (A j) w) v DM len rl K := by
  have hB := hA.1
  have al : ∀ k, k ∈ aRI → ∃ e ∈ aL, e.1 = k := by decide
  refine hA.cg (f0.aw (by rw [hB.o hj]; omega)) ?_ (fun a ha => ?_) (fun k hk => ?_) (fun _ _ => rfl)
  · rw [xh_up, if_neg (hB.ne (by decide) hj (Ne.symm h9))]
  · rw [xh_up, if_neg (fun e => by rw [e, hB.o hj] at ha; omega)]
  · rw [xh_up, if_neg (hB.ne (al k hk) hj (fun (e : k = j) => h1 (e ▸ hk)))]
theorem rA.vg (hA : rA own mm A h F v DM len rl K) (h1 : vg v v') (hz : v' 17 = 0) : rA own mm A h F v' DM len rl K := hA.vv (fun k hk => by
  by_cases h9 : k = 17
  · rw [h9, hz, hA.W1.2.1.1]
  · have : ∀ k, k ∈ vRI → k ≠ 17 → k ≠ 14 ∧ k ≠ 15 ∧ k ≠ 16 ∧ k ≠ 18 := by decide
    obtain ⟨b1, b2, b3, b4⟩ := this k hk h9
    exact h1 k b1 b2 b3 h9 b4)
theorem rA.z (hA : rA own mm A h F v DM len rl K) : v 17 = 0 := hA.W1.2.1.1
theorem z_nb {x : Int32} : -128 ≤ (vp_nar .byte x).toInt ∧ (vp_nar .byte x).toInt ≤ 127 := by
  have h1 : (vp_nar .byte x) = (Int32.toInt8 x).toInt32 := rfl
  rw [h1, z_byte]
  omega
theorem m_keepTapeE {st ts bc bs : Nat} {Qr : Int32 → xb_H → Nat → Nat → Prop} (hB : mB own mm A h) (h4 : (v 4).toInt = st) (h2 : (v 2).toInt = ts) (hs : st + ts ≤ 16384)
    (hQ : ∀ w : Nat → Int32, (∀ j, j < st → w j = F (A 3) j) → (∀ j, st ≤ j → j < st + ts → w j = vp_nar .byte (F (A 1) (j - st))) → Qr (v 4) (mH h (va_up F (A 3) w) mm (va_up (va_up v 4 (v 4 + v 2)) 2 0)) bc bs) : w_M_keepTape mm (mH h F mm v) bc bs Qr := by
  obtain ⟨a1, a2, a3, a4⟩ := hB.kx (k := 3) (kd := 100) (n := 16384) (by decide) (by decide)
  obtain ⟨b1, b2, b3, b4⟩ := hB.kx (k := 1) (kd := 100) (n := 65536) (by decide) (by decide)
  have e42 : (v 4 + v 2).toInt = (st + ts : Nat) := z_ad2 h4 h2 (by omega) (by omega)
  have key : ∀ (n k : Nat) (x : Int32) (w : Nat → Int32), ts - k ≤ n → x.toInt = k → k ≤ ts → (∀ j, j < st → w j = F (A 3) j) → (∀ j, st ≤ j → j < st + k → w j = vp_nar .byte (F (A 1) (j - st))) → w_M_keepTape_L10 Qr (n + 1) mm x (mH h (va_up F (A 3) w) mm v) bc bs := by
    have out : ∀ (w : Nat → Int32), (∀ j, j < st → w j = F (A 3) j) → (∀ j, st ≤ j → j < st + ts → w j = vp_nar .byte (F (A 1) (j - st))) → ∀ v3 : Int32, v3 = v 4 → ∀ h4 : xb_H, h4 = xb_I (mH h (va_up F (A 3) w) mm v) mm 4 (v 4 + v 2) → ∀ h5 : xb_H, h5 = xb_I h4 mm 2 0 → Qr v3 h5 bc bs := by
      intro w w1 w2 v3 e3 h4 e4 h5 e5
      rw [mH_I] at e4
      subst e4
      rw [mH_I] at e5
      subst e5 e3
      exact hQ w w1 w2
    intro n
    induction n with
    | zero =>
      intro k x w hn hx hk w1 w2
      unfold w_M_keepTape_L10
      rw [mH_i]
      refine ⟨hB.2.1, fun _ => out w w1 (fun j j1 j2 => w2 j j1 (by omega)), fun hle => ?_⟩
      rw [z_le, h2, hx] at hle
      omega
    | succ n ih =>
      intro k x w hn hx hk w1 w2
      unfold w_M_keepTape_L10
      rw [mH_i]
      refine ⟨hB.2.1, fun hle => ?_, fun hle => ⟨A 3, a1, A 1, b1, b2, ?_, a2, ?_, fun h12 e12 => ?_⟩⟩
      · rw [z_le, h2, hx] at hle
        exact out w w1 (fun j j1 j2 => w2 j j1 (by omega))
      · rw [z_le, h2, hx] at hle
        rw [z_in, hx]
        show _ ∧ _ < ((xb_n h (A 1) : Nat) : Int)
        omega
      · rw [z_le, h2, hx] at hle
        rw [z_in, z_ad2 h4 hx (by omega) (by omega)]
        show _ ∧ _ < ((xb_n h (A 3) : Nat) : Int)
        omega
      · rw [z_le, h2, hx] at hle
        rw [mH_AA a4, z_cl, z_ad2 h4 hx (by omega) (by omega), Int.toNat_natCast] at e12
        subst e12
        refine ih (k + 1) (x + 1) _ (by omega) (z_inc hx (by omega)) (by omega) (fun j hj => ?_) (fun j j1 j2 => ?_)
        · rw [xh_up, if_neg (by omega)]
          exact w1 j hj
        · rw [xh_up]
          split
          · next e9 =>
            have n13 : A 1 ≠ A 3 := hB.ne (by decide) (by decide) (by decide)
            rw [mH_o b4, xh_up, if_neg n13, z_cl, hx, Int.toNat_natCast, show j - st = k by omega]
          · exact w2 j j1 (by omega)
  unfold w_M_keepTape w_M_reserve w_M_reserve_L55
  rw [mH_i]
  refine ⟨hB.2.1, hB.2.1, A 3, a1, a2, fun _ _ => ⟨ts + 1, ?_⟩, fun hle => ?_⟩
  · have := key ts 0 0 (F (A 3)) (by omega) rfl (by omega) (fun _ _ => rfl) (fun j j1 j2 => by omega)
    rw [va_id] at this
    exact this
  · rw [z_le, e42] at hle
    exfalso
    apply hle
    show _ ≤ (nI (xb_n h (A 3))).toInt
    rw [a3, z_nI (by decide)]
    omega
theorem m_keepTape {st ts bc bs : Nat} {Qr : Int32 → xb_H → Nat → Nat → Prop} (hB : mB own mm A h) (h4 : (v 4).toInt = st) (h2 : (v 2).toInt = ts) (hs : st + ts ≤ 16384)
    (hQ : ∀ w : Nat → Int32, (∀ j, j < st → w j = F (A 3) j) → (∀ j, st ≤ j → j < st + ts → -128 ≤ (w j).toInt ∧ (w j).toInt ≤ 127) → Qr (v 4) (mH h (va_up F (A 3) w) mm (va_up (va_up v 4 (v 4 + v 2)) 2 0)) bc bs) : w_M_keepTape mm (mH h F mm v) bc bs Qr :=
  m_keepTapeE hB h4 h2 hs (fun w w1 w2 => hQ w w1 (fun j j1 j2 => by rw [w2 j j1 j2]; exact z_nb))
/-- the tape alone has changed -/
theorem rA.tp {ts : Nat} (hA : rA own mm A h F v DM len rl (K + 1)) (hv : ∀ k, k ≠ 0 → k ≠ 2 → v' k = v k) (h2 : (v' 2).toInt = ts) (hts : ts ≤ vN v 2 + 20) : rA own mm A h F v' DM len rl K := by
  obtain ⟨w1, w2, w3, w4, w5⟩ := hA.W1
  have e : ∀ k, k ≠ 0 → k ≠ 2 → vN v' k = vN v k := fun k k0 k2 => by
    unfold vN
    rw [hv k k0 k2]
  refine hA.dn.ch f0.rf rfl (fun _ _ => rfl) (hA.s (hv 34 (by decide) (by decide)) (hv 13 (by decide) (by decide))) ⟨⟨fun x hx => ?_, ?_, ?_, ?_, ?_⟩, hA.I.2.cg (fun _ _ => rfl) (fun k hk => ?_)⟩
  · by_cases h9 : x.1 = 2
    · have : ∀ x ∈ wB, x.1 = 2 → x.2 = 10240 := by decide
      have := this x hx h9
      rw [h9, h2, this]
      omega
    · have : ∀ x ∈ wB, x.1 ≠ 0 := by decide
      rw [hv x.1 (this x hx) h9]
      exact w1 x hx
  · rw [hv 17 (by decide) (by decide), hv 84 (by decide) (by decide), hv 94 (by decide) (by decide)]; exact w2
  · rw [e 4 (by decide) (by decide), vN_of h2]
    omega
  · rw [e 42 (by decide) (by decide)]; omega
  · rw [e 13 (by decide) (by decide), e 4 (by decide) (by decide), e 46 (by decide) (by decide), e 30 (by decide) (by decide), e 52 (by decide) (by decide), e 34 (by decide) (by decide)]; exact w5
  · have : ∀ k, k ∈ vRX → k ≠ 0 ∧ k ≠ 2 := by decide
    exact hv k (this k hk).1 (this k hk).2
theorem z_sarC {x s : Int32} {k : Nat} (hs : s.toInt = k) (hk : k = 0 ∨ k = 8 ∨ k = 16 ∨ k = 24) : (x >>> (s &&& 31)).toInt = x.toInt / (2 ^ k : Nat) := by
  have e : ∀ c : Int32, s = c → ((c &&& 31 : Int32).toBitVec.smod 32).toNat = k → (x >>> (s &&& 31)).toInt = x.toInt / (2 ^ k : Nat) := fun c ec h9 => by
    subst ec
    show ((x >>> (s &&& 31)).toBitVec).toInt = _
    rw [Int32.toBitVec_shiftRight]
    show (x.toBitVec.sshiftRight ((s &&& 31 : Int32).toBitVec.smod 32).toNat).toInt = _
    rw [BitVec.toInt_sshiftRight, h9, Int.shiftRight_eq_div_pow]
    rfl
  rcases hk with h9 | h9 | h9 | h9 <;> subst h9
  · exact e 0 (z_eq.mpr hs) (by decide)
  · exact e 8 (z_eq.mpr hs) (by decide)
  · exact e 16 (z_eq.mpr hs) (by decide)
  · exact e 24 (z_eq.mpr hs) (by decide)
theorem z_fd {y x : Int32} {k : Nat} (hx : x.toInt = k) (hk : k < 20) : (vp_nar .byte ((Int32.toInt8 (y >>> ((24 - (8 * (x - x / 4 * 4))) &&& 31))).toInt32)).toInt = fdB y (k % 4) := by
  have ed : (x / 4).toInt = (k / 4 : Nat) := by
    rw [Int32.toInt_div_of_ne_right _ _ (by decide), hx]
    exact (Int.ofNat_tdiv _ _).symm
  have es : (24 - (8 * (x - x / 4 * 4))).toInt = (24 - 8 * (k % 4) : Nat) := by
    rw [z_sub, z_mul, z_sub, z_mul, ed, hx]
    simp only [Int32.reduceToInt]
    omega
  have hs := z_sarC (x := y) es (by omega)
  rw [z_nar]
  unfold fdB
  have n1 := z_nat (y >>> ((24 - (8 * (x - x / 4 * 4))) &&& 31))
  have n2 := z_nat y
  rw [hs] at n1
  generalize (y >>> ((24 - (8 * (x - x / 4 * 4))) &&& 31)).toBitVec.toNat = a at n1 ⊢
  generalize y.toBitVec.toNat = b at n2 ⊢
  generalize y.toInt = c at n1 n2
  unfold sb8
  have : k % 4 = 0 ∨ k % 4 = 1 ∨ k % 4 = 2 ∨ k % 4 = 3 := by omega
  rcases this with e | e | e | e <;> rw [e] at n1 ⊢ <;> simp only [Nat.mul_zero, Nat.sub_zero, Nat.reduceMul, Nat.reduceSub, Nat.reducePow] at n1 ⊢ <;> omega
theorem r_feed {x1 x2 x3 x4 x5 : Int32} {Qr : Int32 → xb_H → Prop} (hA : rA own mm A h F v DM len rl (K + 1)) (hQ : ∀ w : Nat → Int32, (∀ j, j < vN v 2 → w j = F (A 1) j) → (∀ j, j < 20 → (w (vN v 2 + j)).toInt = fdF x1 x2 x3 x4 x5 j) → f0 own h F h (va_up F (A 1) w) → rA own mm A h (va_up F (A 1) w) (va_up (va_up v 0 0) 2 (v 2 + 20)) DM len rl K → Qr (v 2 + 20) (mH h (va_up F (A 1) w) mm (va_up (va_up v 0 0) 2 (v 2 + 20)))) : w_M_feed mm x1 x2 x3 x4 x5 (mH h F mm v) Qr := by
  have hB := hA.B
  obtain ⟨b1, b2, b3, b4⟩ := hB.kx (k := 1) (kd := 100) (n := 65536) (by decide) (by decide)
  obtain ⟨n2, n2'⟩ := hA.n (k := 2) (b := 10240) (by decide)
  have key : ∀ (n k : Nat) (x : Int32) (w : Nat → Int32), 20 - k ≤ n → x.toInt = k → k ≤ 20 → (∀ j, j < vN v 2 → w j = F (A 1) j) → (∀ j, j < k → (w (vN v 2 + j)).toInt = fdF x1 x2 x3 x4 x5 j) → w_M_feed_L36 Qr (n + 1) mm x1 x2 x3 x4 x5 x (mH h (va_up F (A 1) w) mm (va_up v 0 0)) := by
    have out : ∀ (w : Nat → Int32), (∀ j, j < vN v 2 → w j = F (A 1) j) → (∀ j, j < 20 → (w (vN v 2 + j)).toInt = fdF x1 x2 x3 x4 x5 j) → ∀ h3 : xb_H, h3 = xb_I (mH h (va_up F (A 1) w) mm (va_up v 0 0)) mm 2 (xb_i (mH h (va_up F (A 1) w) mm (va_up v 0 0)) mm 2 + 20) → Qr (xb_i h3 mm 2) h3 := by
      intro w g1 g2 h3 e3
      rw [mH_i, mH_I, xh_up, if_neg (by decide)] at e3
      subst e3
      rw [mH_i, xh_up, if_pos rfl]
      refine hQ w g1 g2 (f0.aw (by rw [hB.o (by decide)]; omega)) ((hA.aw (j := 1) (by decide) (by decide) (by decide) (by decide)).tp (ts := vN v 2 + 20) (fun k k0 k2 => by rw [xh_up, if_neg k2, xh_up, if_neg k0]) ?_ (Nat.le_refl _))
      rw [xh_up, if_pos rfl]
      exact z_ad2 n2 rfl (by omega) (by decide)
    intro n
    induction n with
    | zero =>
      intro k x w hn hx hk g1 g2
      unfold w_M_feed_L36
      refine ⟨fun _ => ⟨hB.2.1, out w g1 (fun j hj => g2 j (by omega))⟩, fun hle => ?_⟩
      rw [z_le, hx] at hle
      simp only [Int32.reduceToInt] at hle
      omega
    | succ n ih =>
      intro k x w hn hx hk g1 g2
      have L89 : ∀ y0, k < 20 → fdB y0 (k % 4) = fdF x1 x2 x3 x4 x5 k → w_M_feed_L89 (w_M_feed_L36 Qr (n + 1)) Qr mm x1 x2 x3 x4 x5 x y0 (mH h (va_up F (A 1) w) mm (va_up v 0 0)) := by
        intro y0 hk2 hy0
        have e2 : (xb_i (mH h (va_up F (A 1) w) mm (va_up v 0 0)) mm 2 + x).toInt = (vN v 2 + k : Nat) := by
          rw [mH_i, xh_up, if_neg (by decide)]
          exact z_ad2 n2 hx (by omega) (by omega)
        unfold w_M_feed_L89
        refine ⟨hB.2.1, A 1, b1, b2, ?_, fun h5 e5 => ?_⟩
        · rw [z_in, e2]
          show _ ∧ _ < ((xb_n h (A 1) : Nat) : Int)
          omega
        · rw [mH_AA b4, z_cl, e2, Int.toNat_natCast] at e5
          subst e5
          refine ih (k + 1) (x + 1) _ (by omega) (z_inc hx (by omega)) (by omega) (fun j hj => by rw [xh_up, if_neg (by omega)]; exact g1 j hj) (fun j hj => ?_)
          rw [xh_up]
          split
          · have ej : j = k := by omega
            rw [z_fd hx hk2, hy0, ej]
          · exact g2 j (by omega)
      unfold w_M_feed_L36
      refine ⟨fun h9 => ⟨hB.2.1, out w g1 (fun j hj => g2 j (by rw [z_le, hx] at h9; simp only [Int32.reduceToInt] at h9; omega))⟩, fun hle => ?_⟩
      rw [z_le, hx] at hle
      simp only [Int32.reduceToInt] at hle
      have hk2 : k < 20 := by omega
      unfold fdF at L89
      have le : ∀ c : Int32, c ≤ x ↔ c.toInt ≤ k := fun c => by rw [z_le, hx]
      refine ⟨fun a4 => ⟨fun a8 => ⟨fun a12 => ⟨fun a16 => L89 _ hk2 ?_, fun a16 => L89 _ hk2 ?_⟩, fun a12 => L89 _ hk2 ?_⟩, fun a8 => L89 _ hk2 ?_⟩, fun a4 => L89 _ hk2 ?_⟩
      · rw [le] at a4 a8 a12 a16
        simp only [Int32.reduceToInt] at a4 a8 a12 a16
        rw [if_neg (by omega), if_neg (by omega), if_neg (by omega), if_neg (by omega), show k - 16 = k % 4 by omega]
      · rw [le] at a4 a8 a12 a16
        simp only [Int32.reduceToInt] at a4 a8 a12 a16
        rw [if_neg (by omega), if_neg (by omega), if_neg (by omega), if_pos (by omega), show k - 12 = k % 4 by omega]
      · rw [le] at a4 a8 a12
        simp only [Int32.reduceToInt] at a4 a8 a12
        rw [if_neg (by omega), if_neg (by omega), if_pos (by omega), show k - 8 = k % 4 by omega]
      · rw [le] at a4 a8
        simp only [Int32.reduceToInt] at a4 a8
        rw [if_neg (by omega), if_pos (by omega), show k - 4 = k % 4 by omega]
      · rw [le] at a4
        simp only [Int32.reduceToInt] at a4
        rw [if_pos (by omega), show k % 4 = k by omega]
  have L21 : ∀ y0 : Int32, y0 = 0 → w_M_feed_L21 Qr mm x1 x2 x3 x4 x5 y0 mm (mH h F mm v) := by
    intro y0 hy
    unfold w_M_feed_L21
    refine ⟨hB.2.1, fun h2 e2 => ?_⟩
    rw [mH_I] at e2
    subst e2
    rw [mH_i, xh_up, if_pos rfl]
    subst hy
    refine ⟨hB.2.1, fun hle => ⟨20 + 1, ?_⟩, fun h9 => absurd (by decide) h9⟩
    have := key 20 0 0 (F (A 1)) (by omega) rfl (by omega) (fun _ _ => rfl) (fun j hj => absurd hj (Nat.not_lt_zero j))
    rw [va_id] at this
    exact this
  unfold w_M_feed
  refine ⟨hB.2.1, A 1, b1, b2, fun _ => L21 0 rfl, fun h9 => ?_⟩
  exfalso
  apply h9
  have e20 : (v 2 + 20).toInt = (vN v 2 + 20 : Nat) := z_ad2 n2 rfl (by omega) (by decide)
  rw [mH_i, z_le, e20]
  show _ ≤ (nI (xb_n h (A 1))).toInt
  rw [b3, z_nI (by decide)]
  omega
end MW2
