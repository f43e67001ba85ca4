-- the reference: a run reads and writes a memory
def byR (m : Nat → Int32) (p : Nat) : Nat := ((m p).toInt % 256).toNat
/-- an instruction that reads or writes a memory: the outcome -/
def mmR (D : zM) (b nl : Nat) (B : ctN) (op a : Nat) (c : List Int) (gs : List gF) (W most : Nat → Int64) (g : Nat) (w w' : rWd) (z : uZ) : Prop :=
  (63 ≤ op → ∃ (x : Nat) (c' : List Int) (y : Int64) (x2 : Int32), B a x ∧ x2.toInt = op ∧ pgR w W most g (b + nl + c.length - 1) x2 w' y ∧ (op = 63 → c' = 127 :: c) ∧ (op = 64 → c' = c ∧ ∃ c2, c = 127 :: c2) ∧ z = .inl (c', gs, x, va_up W (b + nl + c'.length - 1) y)) ∧
  (op ≤ 62 → ∃ (τ c2 : List Int) (q : Nat), c = τ ++ 127 :: c2 ∧ (op < 54 → τ = []) ∧ (54 ≤ op → τ.length = 1) ∧ q = (W (b + nl + c2.length) &&& 4294967295).toInt.toNat + cV (qc D) (cE (qc D) (a + 1)) ∧
   ((65536 * (w.2.2.1 g).toInt.toNat < q + (MB (op - 40)).toNat ∧ w' = w ∧ z = .inr (.inr 2)) ∨
    (q + (MB (op - 40)).toNat ≤ 65536 * (w.2.2.1 g).toInt.toNat ∧ ∃ x : Nat, B a x ∧
     ((op < 54 ∧ w' = w ∧ ∃ (r : Int64) (s : Int32), s.toInt = 64 - 8 * MB (op - 40) ∧ r.toBitVec.toNat = gth (fun j => byR w.2.1 (mpA (fun i => w.2.2.2.1 (16 * g + i)) (q + j))) (MB (op - 40)).toNat ∧ z = .inl (MT (op - 40) :: c2, gs, x, va_up W (b + nl + c2.length) (arV (MT (op - 40)) (if op = 44 ∨ op = 46 ∨ op = 48 ∨ op = 50 ∨ op = 52 then xb_lshr (xb_lshl r s) s else r)))) ∨
      (54 ≤ op ∧ (∀ p, byR w'.2.1 p = sto (byR w.2.1) (fun j => mpA (fun i => w.2.2.2.1 (16 * g + i)) (q + j)) (W (b + nl + c2.length + 1)).toBitVec.toNat (MB (op - 40)).toNat p) ∧ (w'.1 = w.1 ∧ w'.2.2 = w.2.2) ∧ z = .inl (c2, gs, x, W))))))
section MRO
variable {own : Nat → Nat} {mm m i ip k f t b nl o top q a o1 op : Nat} {A : Nat → Nat} {h h' h2 : xb_H} {F F' F2 : Nat → Nat → Int32} {v v' v2 : Nat → Int32} {D : zM} {DM : Nat → zM} {len rl K : Nat} {Q : xb_H → Prop} {Ql : Int64 → xb_H → Prop} {φ φ' : Nat → Nat → Int32} {ν ν' : Nat → Int32} {c c' ex pre : List Int} {gs g1 : List gF} {T p0 E : Nat} {lo ν0 ν1 cb : Nat → Int32} {G : ctG} {V : Nat → Prop} {rm y res : Int} {r : List cX} {nst : Prop} {x : Nat × Option Nat}
theorem Z_wh {z y x8 : Int64} {n w pc : Nat} {u : Int32} (hz : 0 ≤ z.toInt ∧ z.toInt < 4294967296) (hy : y.toInt = w) (hw : w < 4294967296) (hu : u.toInt = n) (hn : n ≤ 8) (hpc : pc ≤ 16) {p : Int32} (hp : p.toInt = pc) (hle : z + y + Int32.toInt64 u ≤ 65536 * Int32.toInt64 p) : ∃ w0 : Nat, (z + y).toInt = w0 ∧ w0 + n ≤ 65536 * pc ∧ ∀ (j : Int32) (i : Nat), j.toInt = i → i < n → (z + y + Int32.toInt64 j).toInt = (w0 + i : Nat) := by
  have e1 : (z + y).toInt = z.toInt + w := by
    rw [Z_add, hy]
    omega
  have e2 : (65536 * Int32.toInt64 p).toInt = 65536 * pc := by
    rw [Int64.toInt_mul, Z_bm, Z_of32, hp]
    have : (65536 : Int64).toInt = 65536 := rfl
    rw [this]
    omega
  rw [Z_le, e2, Z_add, Z_of32, hu, e1] at hle
  refine ⟨(z.toInt + w).toNat, by rw [e1]; omega, by omega, fun j i hj hi => ?_⟩
  rw [Z_add, Z_of32, hj, e1]
  omega
theorem cVE {cb : Nat → Int32} {p q : Nat} {x : Int64} (h9 : rC cb p = some (q, x)) : cE cb p = q ∧ cV cb p = x.toBitVec.toNat := by
  unfold cE cV
  rw [h9]
  refine ⟨rfl, ?_⟩
  show x.toInt.toNat = _
  rw [(rC_b h9).2.2.2]
  rfl
theorem m_accessBytesE {x : Int32} {H : xb_H} {Qr : Int32 → xb_H → Prop} (hx : x.toInt = op) (h1 : 40 ≤ op) (h2 : op ≤ 62) (hQ : ∀ u : Int32, u.toInt = MB (op - 40) → (u = 1 ∨ u = 2 ∨ u = 4 ∨ u = 8) → Qr u H) : w_M_accessBytes x H Qr := by
  have c : ∀ (j n : Nat) (u : Int32), (Int32.ofNat j).toInt = j → x = Int32.ofNat j → u.toInt = MB (j - 40) ∧ (u = 1 ∨ u = 2 ∨ u = 4 ∨ u = 8) → Qr u H := fun j n u hj e h9 => by
    have ej : op = j := by
      have := congrArg Int32.toInt e
      omega
    subst ej
    exact hQ u h9.1 h9.2
  unfold w_M_accessBytes w_M_accessBytes_L108 w_M_accessBytes_L111 w_M_accessBytes_L113 w_M_accessBytes_L115
  refine ⟨fun e => c 40 0 4 rfl e (by decide +kernel), fun e => c 41 0 8 rfl e (by decide +kernel), fun e => c 42 0 4 rfl e (by decide +kernel), fun e => c 43 0 8 rfl e (by decide +kernel), fun e => c 44 0 1 rfl e (by decide +kernel), fun e => c 45 0 1 rfl e (by decide +kernel), fun e => c 46 0 2 rfl e (by decide +kernel), fun e => c 47 0 2 rfl e (by decide +kernel), fun e => c 48 0 1 rfl e (by decide +kernel), fun e => c 49 0 1 rfl e (by decide +kernel), fun e => c 50 0 2 rfl e (by decide +kernel), fun e => c 51 0 2 rfl e (by decide +kernel), fun e => c 52 0 4 rfl e (by decide +kernel), fun e => c 53 0 4 rfl e (by decide +kernel), fun e => c 54 0 4 rfl e (by decide +kernel), fun e => c 55 0 8 rfl e (by decide +kernel), fun e => c 56 0 4 rfl e (by decide +kernel), fun e => c 57 0 8 rfl e (by decide +kernel), fun e => c 58 0 1 rfl e (by decide +kernel), fun e => c 59 0 2 rfl e (by decide +kernel), fun e => c 60 0 1 rfl e (by decide +kernel), fun e => c 61 0 2 rfl e (by decide +kernel), fun e => c 62 0 4 rfl e (by decide +kernel), fun n40 n41 n42 n43 n44 n45 n46 n47 n48 n49 n50 n51 n52 n53 n54 n55 n56 n57 n58 n59 n60 n61 n62 => ?_⟩
  exfalso
  have q : ∀ j : Nat, 40 ≤ j → j ≤ 62 → x.toInt ≠ j := fun j h3 h4 e => by
    have h9 : j = 40 ∨ j = 41 ∨ j = 42 ∨ j = 43 ∨ j = 44 ∨ j = 45 ∨ j = 46 ∨ j = 47 ∨ j = 48 ∨ j = 49 ∨ j = 50 ∨ j = 51 ∨ j = 52 ∨ j = 53 ∨ j = 54 ∨ j = 55 ∨ j = 56 ∨ j = 57 ∨ j = 58 ∨ j = 59 ∨ j = 60 ∨ j = 61 ∨ j = 62 := by omega
    rcases h9 with e9 | e9 | e9 | e9 | e9 | e9 | e9 | e9 | e9 | e9 | e9 | e9 | e9 | e9 | e9 | e9 | e9 | e9 | e9 | e9 | e9 | e9 | e9 <;> subst e9
    · exact n40 (z_eq.mpr e)
    · exact n41 (z_eq.mpr e)
    · exact n42 (z_eq.mpr e)
    · exact n43 (z_eq.mpr e)
    · exact n44 (z_eq.mpr e)
    · exact n45 (z_eq.mpr e)
    · exact n46 (z_eq.mpr e)
    · exact n47 (z_eq.mpr e)
    · exact n48 (z_eq.mpr e)
    · exact n49 (z_eq.mpr e)
    · exact n50 (z_eq.mpr e)
    · exact n51 (z_eq.mpr e)
    · exact n52 (z_eq.mpr e)
    · exact n53 (z_eq.mpr e)
    · exact n54 (z_eq.mpr e)
    · exact n55 (z_eq.mpr e)
    · exact n56 (z_eq.mpr e)
    · exact n57 (z_eq.mpr e)
    · exact n58 (z_eq.mpr e)
    · exact n59 (z_eq.mpr e)
    · exact n60 (z_eq.mpr e)
    · exact n61 (z_eq.mpr e)
    · exact n62 (z_eq.mpr e)
  exact q op h1 h2 hx
theorem z_l2m (x : Int64) : (Int64.toInt32 x).toInt % 256 = x.toInt % 256 := by
  rw [Int64.toInt_toInt32]
  rw [Int.bmod_def]
  split <;> omega
theorem Z_sarB {x : Int64} {y : Int32} {k : Nat} (hy : y.toInt = k) (hk : k < 8) : ((xb_lshr x (8 * y)).toInt % 256).toNat = x.toBitVec.toNat / 256 ^ k % 256 := by
  have e1 : (8 * y).toInt = (8 * k : Nat) := by
    rw [z_mul, hy]
    simp only [Int32.reduceToInt]
    omega
  rw [Z_sar e1 (by omega)]
  have e2 := Z_nat x
  have e3 := Z_rg x
  have p : ∀ k, k < 8 → (2 : Nat) ^ (8 * k) = 256 ^ k ∧ (256 : Nat) ^ k * 256 ∣ 18446744073709551616 := by decide
  obtain ⟨p1, m, p2⟩ := p k hk
  rw [p1]
  have h0 : 0 < 256 ^ k := Nat.pow_pos (by decide)
  obtain ⟨n, hn⟩ : ∃ n, n = x.toBitVec.toNat := ⟨_, rfl⟩
  rw [← hn] at e2 ⊢
  have e5 : ((n : Int) / ((256 ^ k : Nat) : Int)) = ((n / 256 ^ k : Nat) : Int) := (Int.natCast_ediv n (256 ^ k)).symm
  obtain ⟨d, hd⟩ : ∃ d, d = n / 256 ^ k := ⟨_, rfl⟩
  rw [← hd] at e5 ⊢
  rcases Int.lt_or_le x.toInt 0 with h9 | h9
  rotate_left
  · have : x.toInt = (n : Int) := by omega
    rw [this, e5]
    omega
  · have : x.toInt = (n : Int) - 18446744073709551616 := by omega
    rw [this, show (18446744073709551616 : Int) = ((256 ^ k : Nat) : Int) * ((256 * m : Nat) : Int) by rw [← Int.natCast_mul, ← Nat.mul_assoc, ← p2]; rfl, Int.sub_mul_ediv_left _ _ (Int.natCast_ne_zero.mpr (Nat.ne_of_gt h0)), e5]
    omega
theorem z_648 {r : Int32} {n : Nat} (hr : r.toInt = n) (hn : n ≤ 8) : (64 - 8 * r).toInt = 64 - 8 * r.toInt := by
  rw [z_sub, z_mul, hr]
  simp only [Int32.reduceToInt]
  omega
theorem gth_s (bb : Nat → Nat) : ∀ k, gth bb (k + 1) = bb 0 + 256 * gth (fun j => bb (j + 1)) k
  | 0 => by simp [gth]
  | k + 1 => by
    rw [gth, gth_s bb k, gth, Nat.pow_succ, Nat.mul_add]
    have : 256 ^ k * 256 * bb (k + 1) = 256 * (256 ^ k * bb (k + 1)) := by rw [Nat.mul_comm (256 ^ k) 256, Nat.mul_assoc]
    omega
theorem gth_lt {bb : Nat → Nat} (hb : ∀ j, bb j < 256) : ∀ k, gth bb k < 256 ^ k
  | 0 => by simp [gth]
  | k + 1 => by
    have h1 := gth_lt hb k
    have h2 := Nat.mul_le_mul_left (256 ^ k) (Nat.le_of_lt_succ (hb k))
    rw [gth, Nat.pow_succ]
    omega
theorem byR_lt (m : Nat → Int32) (p : Nat) : byR m p < 256 := by
  unfold byR
  omega
theorem Z_shl8 {x : Int64} {r : Int32} {n k : Nat} (hx : x.toBitVec.toNat = n) (hn : n < 256 ^ k) (hk : k ≤ 7) (hr : 0 ≤ r.toInt ∧ r.toInt < 256) : ((xb_lshl x 8) ||| Int32.toInt64 r).toBitVec.toNat = r.toInt.toNat + 256 * n := by
  have h1 : 256 ^ k ≤ 256 ^ 7 := Nat.pow_le_pow_right (by decide) hk
  have e1 : (Int32.toInt64 r).toBitVec.toNat = r.toInt.toNat := by
    have := Z_nat (Int32.toInt64 r)
    rw [Z_of32] at this
    omega
  rw [Z_or, Z_shl (k := 8) rfl (by decide), hx, e1, Nat.mod_eq_of_lt (by omega), Nat.mul_comm n, Nat.mul_comm (2 ^ 8)]
  rw [Nat.mul_comm n (2 ^ 8), ← Nat.two_pow_add_eq_or_of_lt (by omega)]
  omega
theorem n_inMemory {x1 x2 : Int32} (hX : uX own mm A h F v DM len rl K D t f b nl k o c gs T p0 E lo ν0 ν1 G V rm r) (hG : G 0 a c gs) (hr : rdP v (qb D) (a + 1) (qe D)) (h82 : v 82 = 0) (hx1 : x1 = F (A 44) f) (hx2 : x2.toInt = op) (hop : (qc D a).toInt % 256 = op) (ho : 40 ≤ op) (ho2 : op ≤ 64) (hn : ¬ nst)
    (hQ : ∀ (h' : xb_H) (F' : Nat → Nat → Int32) (v' : Nat → Int32) (w' : rWd) (z : uZ), uP own mm A DM len rl K D t f b nl k o T p0 E lo ν0 ν1 G V rm r a nst h F v h' F' v' w' z → mmR D b nl (ct_B ν1 p0 E) op a c gs (xb_l h (A 74)) (xb_l h (A 55)) (oV A F DM (F (A 44) f).toInt.toNat 2).toInt.toNat (rwd A h F v) w' z → Q (mH h' F' mm v')) : w_M_inMemory mm x1 x2 (mH h F mm v) Q := by
  obtain ⟨C, dD, hVa, hwk, hE1, hE2, hE3, hvk, hcc⟩ := hX.ai hG hop
  obtain ⟨iz, mz, bz, y1, y2, y3, y4, y5, y6, y7, y8, y9, hM, hM2, hM3⟩ := hX.dX
  obtain ⟨-, -, -, -, -, -, -, -, -, -, -, -, -, -, -, C15, -⟩ := C
  obtain ⟨D1, D54, -⟩ := dD
  have hB := hX.1.B
  obtain ⟨hmem, xx, c1, c2, c3, c63, c64, cld, cst⟩ := C15 (by omega) (by omega)
  obtain ⟨sm, sm'⟩ := wk_sh_m (op := (op : Int)) (by omega) (by omega)
  have sh7 : op ≤ 62 → wk_sh ((qc D a).toInt % 256) = 7 := fun h9 => by rw [hop]; exact sm (by omega)
  have sh8 : 63 ≤ op → wk_sh ((qc D a).toInt % 256) = 8 := fun h9 => by rw [hop]; exact sm' (by omega)
  have sh4 : 4 ≤ wk_sh ((qc D a).toInt % 256) := by
    rcases Nat.lt_or_ge op 63 with h9 | h9
    · rw [sh7 (by omega)]; decide
    · rw [sh8 h9]; decide
  obtain ⟨q, hnr, q1, q2, q3, q4⟩ := wOK.nx hvk hVa hwk (.inr sh4)
  obtain ⟨n1, n2, -⟩ := hnr
  have exq : xx = q := by
    have h8 := c1.2.2
    rw [(hvk.2.1 a hVa).2.2.2 (.inr (.inr sh4))] at h8
    have := n2 sh4
    omega
  subst exq
  obtain ⟨g31, k31, n31, m31⟩ := hB.kx (k := 31) (kd := 102) (n := 24) (by decide) (by decide)
  obtain ⟨g54, k54, n54, m54⟩ := hB.kx (k := 54) (kd := 102) (n := 24) (by decide) (by decide)
  have o57 : 60 ≤ own (A 57) := by rw [hB.o (by decide)]; omega
  have clx : x1.toNatClampNeg = iz := by rw [hx1, z_cl, y1]; omega
  have hmem' : 0 < iM D 2 + qt D 5 := by
    have : gn D 4 = 3 * (iM D 2 + qt D 5) := rfl
    omega
  unfold w_M_inMemory
  refine ⟨hB.2.1, fun v2 e2 => ?_⟩
  rw [mH_i] at e2
  subst e2
  refine n_only (κ := 2) (i := iz) hX.1 (by rw [hx1]; exact y1) y3 rfl (.inr rfl) (fun v1 r4 u1 u2 u3 _ => ?_)
  obtain ⟨g, u4, u5, u6⟩ : ∃ g : Nat, r4.toInt = g ∧ g < vN v 52 ∧ g = (oV A F DM (F (A 44) f).toInt.toNat 2).toInt.toNat := by
    rcases u3 with ⟨-, u3⟩ | ⟨g, u3, -, u4, u7, -⟩
    · exfalso
      have u3 := u3 mz y4
      rw [← y9] at u3
      have : qt D (3 + 2) = qt D 5 := rfl
      omega
    · exact ⟨g, u3, u4 rfl, by rw [y1, Int.toNat_natCast, ← u7, u3]; rfl⟩
  rw [← u6] at hQ
  have hX1 := hX.vg u1 u2
  refine ⟨A 31, g31, k31, ?_, ?_⟩
  · rw [hx1, z_in, y1]
    show _ ∧ _ < ((xb_n h (A 31) : Nat) : Int)
    omega
  rw [mH_o m31, clx]
  have hr21 := hr.2.2.1
  refine m_go_k hM u2 y4 (p := a + 1) hr.1 hr21 (by omega) (fun v3 k3 _ => ?_)
  have hX3 := hX1.vg k3.1 k3.2.2.2
  have vg3 : vg v v3 := u1.tr k3.1
  have v82 : v3 82 = 0 := by rw [vg3 82 (by decide) (by decide) (by decide) (by decide) (by decide)]; exact h82
  have hg3 : g < vN v3 52 := by
    unfold vN
    rw [vg3 52 (by decide) (by decide) (by decide) (by decide) (by decide)]
    exact u5
  have hg24 : g < 24 := by
    have := (hX.1.n (k := 52) (b := 24) (by decide)).2
    omega
  have cg : r4.toNatClampNeg = g := by rw [z_cl, u4]; omega
  -- pages
  have L36 : 63 ≤ op → w_M_inMemory_L36 Q mm x2 (v 15) r4 (mH h F mm v3) := by
    intro h63
    have sh := sh8 h63
    rw [sh] at n1
    obtain ⟨-, e8⟩ := n1.2.2.2.2.2.2.1 rfl
    unfold w_M_inMemory_L36
    have e63 : op = 63 ∨ op = 64 := by omega
    have x63 : x2 = 63 ↔ op = 63 := by
      rw [z_eq, hx2]
      simp only [Int32.reduceToInt]
      omega
    have x64 : x2 = 64 ↔ op = 64 := by
      rw [z_eq, hx2]
      simp only [Int32.reduceToInt]
      omega
    refine ⟨hB.2.1, n_pagesOf hX3 u4 hg3 (fun e => ?_) (fun e => ?_) (fun e => ?_) (fun h5 F5 v5 c5 y5 p5 w5 hX5 f1 f2 f3 f4 _ h6 e6 => ?_)⟩
    · have := hX.rm' (c63 (by have := x63.mp e; omega))
      simp only [List.length_cons] at this
      omega
    · exact x64.mpr (by
        have : op ≠ 63 := fun e9 => e (x63.mpr e9)
        omega)
    · obtain ⟨c2', ec, -⟩ := c64 (by have := x64.mp e; omega)
      have d1 := D1 (by have := x64.mp e; omega)
      rw [ec] at d1
      simp only [List.length_cons] at d1
      exact ⟨c2', ec, by omega⟩
    · rw [mH_I] at e6
      subst e6
      have e15 : (v 15 + 1).toInt = (a + 2 : Nat) := z_inc hr.1 (by omega)
      have vo : ∀ j, j ≠ 15 → va_up v5 15 (v 15 + 1) j = v5 j := fun j hj => by rw [xh_up, if_neg hj]
      have hX6 := hX5.vv (v' := va_up v5 15 (v 15 + 1)) (fun j hj => vo j (fun (e : j = 15) => hj (by rw [e]; decide))) (by rw [vo 17 (by decide)]; exact hX5.1.z)
      have gg : G 0 xx c5 gs := by
        rcases e63 with e | e
        · rw [f1 (x63.mpr e)]
          exact c63 (by omega)
        · rw [f2 (x64.mpr e)]
          exact (c64 (by omega)).choose_spec.2
      have hB5 := hX5.1.B
      have s3 : sF own A h F v h F v3 := vg3.sF
      have s6 : sF own A h5 F5 v5 h5 F5 (va_up v5 15 (v 15 + 1)) := sF.v1 (by decide)
      rw [s3.W hB] at f4
      exact hQ _ _ _ _ (.inl (c5, gs, xx, _)) ⟨(s3.P hB).tr (p5.tr (s6.P hB5)), s6.W hB5, hX6, by rw [xh_up, if_pos rfl, e15, e8], gg, by rw [vo 82 (by decide), w5 82 (by decide) (by decide)]; exact v82, fun h9 => absurd h9 hn, rfl⟩ ⟨fun _ => ⟨xx, c5, y5, x2, c1, hx2, f4, fun e => f1 (x63.mpr e), fun e => ⟨f2 (x64.mpr e), (c64 (by omega)).choose, (c64 (by omega)).choose_spec.1⟩, by rw [f3]⟩, fun e => by omega⟩
  have x63 : x2 = 63 ↔ op = 63 := by
    rw [z_eq, hx2]
    simp only [Int32.reduceToInt]
    omega
  have x64 : x2 = 64 ↔ op = 64 := by
    rw [z_eq, hx2]
    simp only [Int32.reduceToInt]
    omega
  refine ⟨fun e => L36 (by have := x63.mp e; omega), fun n63 => ⟨fun n64 => ?_, fun e => L36 (by have := x64.mp e; omega)⟩⟩
  have h62 : op ≤ 62 := by
    have : op ≠ 63 := fun e => n63 (x63.mpr e)
    have : op ≠ 64 := fun e => n64 (x64.mpr e)
    omega
  have sh := sh7 h62
  rw [sh] at n1
  obtain ⟨p1, z1, z2, k1, k2⟩ := n1.2.2.2.2.2.1 rfl
  have b1 := rC_b k1
  have b2 := rC_b k2
  have eof : cV (qc D) (cE (qc D) (a + 1)) = z2.toBitVec.toNat := by rw [(cVE k1).1, (cVE k2).2]
  refine m_count_k hM.rd k3.2.2.1 k3.2.2.2 k1 (by omega) (fun v4 r4' w4 _ => m_count_k hM.rd (r4'.P k3.2.2.1) w4 k2 (by omega) (fun v5 r5 w5 _ v16 e16 => ?_))
  rw [mH_i] at e16
  subst e16
  have hX5 := (hX3.vg r4'.vg w4).vg r5.vg w5
  have vg5 : vg v v5 := vg3.tr (r4'.vg.tr r5.vg)
  have v15 : (v5 15).toInt = xx := r5.2.1
  have v85 : v5 82 = 0 := by rw [vg5 82 (by decide) (by decide) (by decide) (by decide) (by decide)]; exact h82
  obtain ⟨pc, zp, zp2⟩ := hX.1.w4.2.2.2.1 g u5
  have zp' : (F (A 54) g).toInt = pc := zp
  have n53 := (hX.1.n (k := 53) (b := 16) (by decide)).2
  have x54 : x2 < 54 ↔ op < 54 := by
    rw [z_lt, hx2]
    simp only [Int32.reduceToInt]
    omega
  have h52 : g < vN v5 52 := by
    unfold vN
    rw [vg5 52 (by decide) (by decide) (by decide) (by decide) (by decide)]
    exact u5
  have mt := mt_ty (op - 40) (by omega)
  refine m_accessType hx2 ho h62 (fun r18 e18 _ => m_accessBytesE hx2 ho h62 (fun r20 eB e20 _ => ?_))
  obtain ⟨nb, hnb, hnb2⟩ : ∃ nb : Nat, r20.toInt = nb ∧ nb ≤ 8 := by
    rcases e20 with e | e | e | e <;> subst e
    · exact ⟨1, rfl, by decide⟩
    · exact ⟨2, rfl, by decide⟩
    · exact ⟨4, rfl, by decide⟩
    · exact ⟨8, rfl, by decide⟩
  have hMB : (MB (op - 40)).toNat = nb := by rw [← eB, hnb]; rfl
  have L96 : ∀ (v6 : Nat → Int32) (c6 τ : List Int) (y0 : Int64), c = τ ++ 127 :: c6 → (op < 54 → τ = [] ∧ y0 = 0) → (54 ≤ op → τ.length = 1 ∧ y0 = xb_l h (A 74) (b + nl + c6.length + 1)) → sF own A h F v h F v6 → (∀ j, j ≠ 76 → v6 j = v5 j) → uX own mm A h F v6 DM len rl K D t f b nl k o (127 :: c6) gs T p0 E lo ν0 ν1 G V rm r → gbl gs ≤ c6.length → (op < 54 → G 0 xx (MT (op - 40) :: c6) gs) → (54 ≤ op → G 0 xx c6 gs) → w_M_inMemory_L96 Q mm x2 r4 z2 (v5 15) r18 r20 y0 (mH h F mm v6) := by
    intro v6 c6 τ y0 ec tl ts s6 w6 hX6 hg6 gld gst
    unfold w_M_inMemory_L96
    refine ⟨hB.2.1, hX6.popE (.inr rfl) hg6 (fun v7 s7 w7 hX7 _ v8 e8 h5 e5 => ?_)⟩
    obtain ⟨z, hz⟩ : ∃ z, z = xb_l h (A 74) (b + nl + c6.length) := ⟨_, rfl⟩
    rw [← hz] at e8
    rw [mH_I, vu_id (show v7 15 = v5 15 by rw [w7 15 (by decide), w6 15 (by decide)])] at e5
    subst e5
    have v715 : (v7 15).toInt = xx := by rw [w7 15 (by decide), w6 15 (by decide)]; exact v15
    have v782 : v7 82 = 0 := by rw [w7 82 (by decide), w6 82 (by decide)]; exact v85
    have h527 : g < vN v7 52 := by
      unfold vN
      rw [w7 52 (by decide), w6 52 (by decide)]
      exact h52
    have sx : sF own A h F v h F v7 := s6.tr s7
    have pf : pF own mm A h F v h F v7 := sx.P hB
    have hlow := Z_low_rg z
    have ez : z2.toInt = z2.toBitVec.toNat := b2.2.2.2
    have e54 : ((rwd A h F v).2.2.1 g).toInt = pc := zp'
    have ewh : (z &&& 4294967295).toInt.toNat + z2.toBitVec.toNat = v8.toInt.toNat ∧ 0 ≤ v8.toInt ∧ v8.toInt < 8589934592 := by
      have h8 : v8.toInt = (z &&& 4294967295).toInt + z2.toBitVec.toNat := by
        rw [e8, Z_add, ez]
        have := b2.2.2.1
        omega
      have := b2.2.2.1
      omega
    refine ⟨A 54, g54, k54, ?_, fun hle => ?_, fun hgt h12 e12 => ?_⟩
    · rw [z_in, u4]
      show _ ∧ _ < ((xb_n h (A 54) : Nat) : Int)
      omega
    · rw [mH_o m54, cg, e8] at hle
      obtain ⟨w0, j1, j2, j3⟩ := Z_wh (x8 := 0) (Z_low_rg z) b2.2.2.2 b2.2.2.1 hnb hnb2 (by omega) zp' hle
      rw [← e8] at j1 j3
      have ew0 : w0 = (z &&& 4294967295).toInt.toNat + cV (qc D) (cE (qc D) (a + 1)) := by rw [eof, ewh.1, j1]; rfl
      refine ⟨fun h54 v11 e11 => ⟨nb + 1, ?_⟩, fun h54 => ⟨nb + 1, ?_⟩⟩
      · -- read
        have o54 := x54.mp h54
        have gl := gld o54
        have hl := hX.rm' gl
        simp only [List.length_cons] at hl
        have es : (64 - 8 * r20).toInt = 64 - 8 * MB (op - 40) := by
          rw [z_648 hnb hnb2, eB]
        have L297 : ∀ y1 r1 : Int64, r1.toBitVec.toNat = gth (fun j => byR (F (A 57)) (mpA (fun i => F (A 56) (16 * g + i)) (w0 + j))) nb → y1 = (if op = 44 ∨ op = 46 ∨ op = 48 ∨ op = 50 ∨ op = 52 then xb_lshr (xb_lshl r1 (64 - 8 * r20)) (64 - 8 * r20) else r1) → w_M_inMemory_L297 Q r18 y1 mm (mH h F mm v7) := by
          intro y1 r1 hr1 hy1
          unfold w_M_inMemory_L297
          refine ⟨hB.2.1, hX7.pushE (by rw [e18]; omega) (by omega) (fun F9 v9 s9 w9 f9 hX9 _ => ?_)⟩
          rw [e18] at hX9 s9 ⊢
          refine hQ _ _ _ (rwd A h F v) (.inl (_, gs, xx, _)) ⟨pf.tr (s9.P hB), (sx.tr s9).W hB, hX9, by rw [w9 15 (by decide)]; exact v715, gl, by rw [w9 82 (by decide)]; exact v782, fun h9 => absurd h9 hn, rfl⟩ ⟨fun e => by omega, fun _ => ⟨τ, c6, w0, ec, fun e => (tl e).1, fun e => (ts e).1, by rw [ew0, hz], .inr ⟨by rw [e54, hMB]; exact j2, xx, c1, .inl ⟨o54, rfl, r1, 64 - 8 * r20, es, by rw [hMB]; exact hr1, by rw [xl_L, hy1]⟩⟩⟩⟩
        have L264 : ∀ (x10 : Int64) (y1 : Int32), x10.toBitVec.toNat = gth (fun j => byR (F (A 57)) (mpA (fun i => F (A 56) (16 * g + i)) (w0 + j))) nb → (y1 = 0 → ¬ (op = 44 ∨ op = 46 ∨ op = 48 ∨ op = 50 ∨ op = 52)) → (y1 ≠ 0 → (op = 44 ∨ op = 46 ∨ op = 48 ∨ op = 50 ∨ op = 52)) → w_M_inMemory_L264 Q mm r18 r20 x10 y1 (mH h F mm v7) := by
          intro x10 y1 h10 hy0 hy1
          unfold w_M_inMemory_L264
          exact ⟨fun e => L297 _ x10 h10 (by rw [if_neg (hy0 e)]), fun e => L297 _ x10 h10 (by rw [if_pos (hy1 e)])⟩
        have L259 : ∀ (x10 : Int64) (m : Int32), x2 = m → (m = 44 ∨ m = 46 ∨ m = 48 ∨ m = 50 ∨ m = 52) → x10.toBitVec.toNat = gth (fun j => byR (F (A 57)) (mpA (fun i => F (A 56) (16 * g + i)) (w0 + j))) nb → w_M_inMemory_L259 Q mm r18 r20 x10 (mH h F mm v7) := fun x10 m e9 hm h10 => L264 x10 1 h10 (fun e => absurd e (by decide)) (fun _ => by
          rw [e9] at hx2
          rcases hm with e | e | e | e | e <;> subst e <;> simp only [Int32.reduceToInt] at hx2 <;> omega)
        have loop : ∀ (n : Nat) (x10 : Int64) (x14 : Int32), n ≤ nb → x14.toInt = (n : Int) - 1 → x10.toBitVec.toNat = gth (fun j => byR (F (A 57)) (mpA (fun i => F (A 56) (16 * g + i)) (w0 + (n + j)))) (nb - n) → w_M_inMemory_L197 Q (n + 1) mm x2 r4 r18 r20 x10 v8 x14 (mH h F mm v7) := by
          intro n
          induction n with
          | zero =>
            intro x10 x14 hn1 h14 h10
            simp only [Nat.zero_add, Nat.sub_zero] at h10
            unfold w_M_inMemory_L197
            refine ⟨fun _ => ⟨fun e => L259 _ _ e (by decide) h10, fun n1 => ⟨fun e => L259 _ _ e (by decide) h10, fun n2 => ⟨fun e => L259 _ _ e (by decide) h10, fun n3 => ⟨fun e => L259 _ _ e (by decide) h10, fun n4 => ⟨fun n5 => L264 _ _ h10 (fun _ h9 => ?_) (fun e => absurd rfl e), fun e => L259 _ _ e (by decide) h10⟩⟩⟩⟩⟩, fun h9 => ?_⟩
            · rcases h9 with e | e | e | e | e
              · exact n1 (by rw [z_eq, hx2, e]; rfl)
              · exact n2 (by rw [z_eq, hx2, e]; rfl)
              · exact n3 (by rw [z_eq, hx2, e]; rfl)
              · exact n4 (by rw [z_eq, hx2, e]; rfl)
              · exact n5 (by rw [z_eq, hx2, e]; rfl)
            rw [z_lt, h14] at h9
            simp only [Int32.reduceToInt] at h9
            omega
          | succ n ih =>
            intro x10 x14 hn1 h14 h10
            unfold w_M_inMemory_L197
            refine ⟨fun h9 => ?_, fun _ => ⟨hB.2.1, n_byteAt (w := w0 + n) hX7.1 u4 h527 zp' (j3 x14 n (by rw [h14]; omega) (by omega)) (by omega) (fun r9 hr9 _ v10 e10 => ih v10 _ (by omega) ?_ ?_)⟩⟩
            · rw [z_lt, h14] at h9
              simp only [Int32.reduceToInt] at h9
              omega
            · rw [z_add, h14]
              simp only [Int32.reduceToInt]
              omega
            · have hlt := gth_lt (bb := fun j => byR (F (A 57)) (mpA (fun i => F (A 56) (16 * g + i)) (w0 + (n + 1 + j)))) (fun j => byR_lt _ _) (nb - (n + 1))
              rw [e10, Z_shl8 h10 hlt (by omega) (by omega), show nb - n = nb - (n + 1) + 1 by omega, gth_s]
              congr 1
              · show _ = byR _ _
                unfold byR
                rw [hr9]
                rfl
              · congr 1
                refine gth_cg _ (fun j _ => ?_)
                show byR _ (mpA _ (w0 + (n + 1 + j))) = byR _ (mpA _ (w0 + (n + (j + 1))))
                rw [show n + 1 + j = n + (j + 1) by omega]
        refine loop nb y0 v11 (Nat.le_refl _) ?_ (by rw [(tl o54).2, Nat.sub_self]; rfl)
        rw [e11, z_sub, hnb]
        simp only [Int32.reduceToInt]
        omega
      · -- write
        have o54 : 54 ≤ op := Nat.le_of_not_lt (fun e => h54 (x54.mpr e))
        have gs' := gst o54
        have loop : ∀ (n j : Nat) (F8 : Nat → Nat → Int32) (x14 : Int32), n + j = nb → x14.toInt = j → uX own mm A h F8 v7 DM len rl K D t f b nl k o c6 gs T p0 E lo ν0 ν1 G V rm r → f0 own h F h F8 → (∀ a, a ≠ A 57 → F8 a = F a) → (∀ p, byR (F8 (A 57)) p = sto (byR (F (A 57))) (fun j => mpA (fun i => F (A 56) (16 * g + i)) (w0 + j)) y0.toBitVec.toNat j p) → w_M_inMemory_L156 Q (n + 1) mm r4 r20 y0 v8 x14 (mH h F8 mm v7) := by
          intro n
          induction n with
          | zero =>
            intro j F8 x14 hj h14 hX8 f8 fo f57
            unfold w_M_inMemory_L156
            have ej : nb = j := by omega
            have q : ∀ k, k ∈ kA → (∃ e ∈ aL, e.1 = k) ∧ k ≠ 57 := by decide
            have fk : ∀ k, (∃ e ∈ aL, e.1 = k) → k ≠ 57 → F8 (A k) = F (A k) := fun k h1 h2 => fo _ (hB.ne h1 (by decide) h2)
            have xk : xK mm A h F h F8 := ⟨fun k hk => fk k (q k hk).1 (q k hk).2, fun _ _ => rfl, rfl, fun h9 i => by rw [fk 75 (by decide) (by decide)]; exact h9 i⟩
            have eW : rwd A h F8 v7 = ((rwd A h F v).1, F8 (A 57), (rwd A h F v).2.2) := by
              rw [← sx.W hB]
              unfold rwd
              rw [fk 54 (by decide) (by decide), fk 56 (by decide) (by decide)]
            refine ⟨fun _ => hQ _ _ _ _ (.inl (c6, gs, xx, _)) ⟨pf.tr ⟨⟨f8, xk⟩, fun _ _ _ _ => rfl⟩, eW, hX8, v715, gs', v782, fun h9 => absurd h9 hn, rfl⟩ ⟨fun e => by omega, fun _ => ⟨τ, c6, w0, ec, fun e => (tl e).1, fun e => (ts e).1, by rw [ew0, hz], .inr ⟨by rw [e54, hMB]; exact j2, xx, c1, .inr ⟨o54, by rw [hMB, ej, ← (ts o54).2]; exact f57, ⟨rfl, rfl⟩, rfl⟩⟩⟩⟩, fun h9 => ?_⟩
            rw [z_le, h14, hnb] at h9
            omega
          | succ n ih =>
            intro j F8 x14 hj h14 hX8 f8 fo f57
            unfold w_M_inMemory_L156
            have f54 : F8 (A 54) = F (A 54) := fo _ (hB.ne (by decide) (by decide) (by decide))
            have f56 : F8 (A 56) = F (A 56) := fo _ (hB.ne (by decide) (by decide) (by decide))
            refine ⟨fun h9 => ?_, fun _ => ⟨hB.2.1, n_storeByte (w := w0 + j) hX8.1 u4 h527 (by rw [f54]; exact zp') (j3 x14 j h14 (by omega)) (by omega) (fun yb hyb _ => ih (j + 1) _ _ (by omega) (z_inc h14 (by omega)) (hX8.aw (j := 57) (by decide) (by decide) (by decide) (by decide) (by decide)) (f8.tr (f0.aw o57)) (fun a' ha' => by rw [xh_up, if_neg ha']; exact fo a' ha') (fun p => ?_))⟩⟩
            · rw [z_le, h14, hnb] at h9
              omega
            · rw [xh_up, if_pos rfl, sto, f56]
              unfold byR
              rw [xh_up _ (mpA _ _), xh_up _ (mpA _ _)]
              split
              · rw [hyb, z_l2m, Z_sarB h14 (by omega)]
              · exact f57 p
        exact loop nb 0 F 0 rfl rfl hX7 f0.rf (fun _ _ => rfl) (fun _ => rfl)
    · rw [mH_I] at e12
      subst e12
      rw [mH_o m54, cg] at hgt
      have htr := hX7.trap (a := a) (nst := nst) (w := 2) (by decide)
      rw [sx.W hB] at htr
      refine hQ _ _ _ (rwd A h F v) _ ⟨pf.tr htr.1, htr.2⟩ ⟨fun e => by omega, fun _ => ⟨τ, c6, v8.toInt.toNat, ec, fun e => (tl e).1, fun e => (ts e).1, by rw [eof, ← hz, ewh.1], .inl ⟨?_, rfl, rfl⟩⟩⟩
      rw [e54, hMB, Int.toNat_natCast]
      have h8 : ¬ ((v8 + Int32.toInt64 r20).toInt ≤ (65536 * Int32.toInt64 (F (A 54) g)).toInt) := fun e => hgt (Z_le.mpr e)
      have e1 : (v8 + Int32.toInt64 r20).toInt = v8.toInt + nb := by
        rw [Z_add, Z_of32, hnb]
        omega
      have e2 : (65536 * Int32.toInt64 (F (A 54) g)).toInt = 65536 * pc := by
        rw [Int64.toInt_mul, Z_bm, Z_of32, zp']
        have : (65536 : Int64).toInt = 65536 := rfl
        rw [this]
        omega
      rw [e1, e2] at h8
      omega
  refine ⟨fun h54 => ?_, fun h54 => ?_⟩
  · have o54 := x54.mp h54
    obtain ⟨c6, ec, gl⟩ := cld (by omega)
    have d1 := D1 (by omega)
    rw [ec] at hX5 d1
    simp only [List.length_cons] at d1
    exact L96 v5 c6 [] 0 ec (fun _ => ⟨rfl, rfl⟩) (fun e => by omega) vg5.sF (fun _ _ => rfl) hX5 (by omega) (fun _ => by
      rw [show ((op : Int) - 40).toNat = op - 40 by omega] at gl
      exact gl) (fun e => by omega)
  · have o54 : 54 ≤ op := Nat.le_of_not_lt (fun e => h54 (x54.mpr e))
    obtain ⟨c6, ec, gl⟩ := cst (by omega) (by omega)
    have d1 := D54 (by omega)
    rw [show ((op : Int) - 40).toNat = op - 40 by omega] at ec
    rw [ec] at hX5 d1
    simp only [List.length_cons] at d1
    exact hX5.popE (.inr e18) (by simp only [List.length_cons]; omega) (fun v6 s6 w6 hX6 _ => L96 v6 c6 [MT (op - 40)] _ ec (fun e => by omega) (fun _ => ⟨rfl, rfl⟩) (vg5.sF.tr s6) w6 hX6 (by omega) (fun e => by omega) (fun _ => gl))
end MRO
